import java.lang.reflect.Constructor;
import java.lang.reflect.Executable;
import java.lang.reflect.Field;
import java.lang.reflect.Method;
import java.lang.reflect.Modifier;
import java.nio.file.Files;
import java.nio.file.Path;
import java.util.ArrayList;
import java.util.List;
import java.util.Set;
import java.util.regex.Matcher;
import java.util.regex.Pattern;

/** The class keeps to those rules of LANGUAGE.md that its text, or a look at its members, can show. */
public final class LanguageTest {
    private static final int MOST_CLASSES = 12;
    private static final int MOST_FIELDS = 20;
    private static final int MOST_PARAMETERS = 7;
    private static final int MOST_LINES = 60;
    private static final Set<Class<?>> CONSTANTS = Set.of(int.class, long.class, boolean.class, char.class, String.class,
        int[].class, long[].class, char[].class, byte[].class);
    private static final Set<String> FUNCTIONS = Set.of("Math.abs", "Math.max", "Math.min", "Integer.bitCount");

    private final Checks checks = new Checks();
    private final String source;

    private LanguageTest(String source) {
        this.source = source;
    }

    public static void main(String[] args) throws Exception {
        LanguageTest test = new LanguageTest(Files.readString(Path.of("src/main/java/GridMarket.java")));
        test.checkWords();
        test.checkLibrary();
        test.checkThrows();
        test.checkMethodLines();
        List<Class<?>> classes = new ArrayList<>(List.of(GridMarket.class.getDeclaredClasses()));
        classes.add(GridMarket.class);
        test.checks.due("rule 11: classes are few", classes.size() <= MOST_CLASSES, true);
        for (Class<?> one : classes) {
            test.checkFields(one);
            test.checkParameters(one);
        }
        test.checks.end();
    }

    private void checkWords() {
        for (String word : new String[] {"->", "::", "catch", "finally", "import ", "package ", "synchronized", "assert ",
            "static {", "Exact(", "@", "System.", "Objects", "Collections", "Stream", "Map<", "Random", "Thread"}) {
            checks.due("the source holds " + word, source.contains(word), false);
        }
        int greatest = 0;
        for (int at = 0; at < source.length(); at++) {
            greatest = Math.max(greatest, source.charAt(at));
        }
        checks.due("rule 4: signs beyond 127", greatest > 127, false);
    }

    /** Rule 4 lists functions of Integer and Math, and none of their constants. */
    private void checkLibrary() {
        Matcher uses = Pattern.compile("\\b(Integer|Long|Math|String|StringBuilder|Arrays|List)\\b(\\.\\w+)?(\\()?").matcher(source);
        int functions = 0;
        while (uses.find()) {
            functions++;
            checks.due("rule 4: " + uses.group() + " is a function that rule 4 lists",
                FUNCTIONS.contains(uses.group(1) + uses.group(2)) && uses.group(3) != null, true);
        }
        checks.due("rule 4: uses of the library were found", functions > 0, true);
    }

    private void checkThrows() {
        Matcher thrown = Pattern.compile("\\bthrow\\b([^;]*);").matcher(source);
        int count = 0;
        while (thrown.find()) {
            count++;
            checks.due("rule 6: throw" + thrown.group(1), thrown.group(1).matches(
                " new (IllegalStateException|IllegalArgumentException|IndexOutOfBoundsException)\\((\"[^\"]*\")?\\)"), true);
        }
        checks.due("rule 6: throws were found", count > 0, true);
    }

    /** A method begins with a line that ends with a brace, and ends with the brace that stands as far in. */
    private void checkMethodLines() {
        String[] lines = source.split("\n");
        int methods = 0;
        for (int first = 0; first < lines.length; first++) {
            if (lines[first].matches("( {4}| {8})\\S.*\\) ?\\{") && !lines[first].matches("\\s+(for|if|while|switch) .*")) {
                methods++;
                String end = " ".repeat(lines[first].indexOf(lines[first].trim())) + "}";
                int last = first;
                while (last < lines.length && !lines[last].equals(end)) {
                    last++;
                }
                checks.due("rule 11: few lines from line " + (first + 1), last - first + 1 <= MOST_LINES, true);
            }
        }
        checks.due("rule 11: methods were found", methods > 40, true);
    }

    private void checkFields(Class<?> one) {
        int fields = 0;
        for (Field field : one.getDeclaredFields()) {
            if (Modifier.isStatic(field.getModifiers())) {
                checks.due("rule 5: " + field + " is final", Modifier.isFinal(field.getModifiers()), true);
                checks.due("rule 5: " + field + " is of a type that constants have", CONSTANTS.contains(field.getType()), true);
            } else {
                fields++;
            }
        }
        checks.due("rule 11: " + one.getName() + " has few fields", fields <= MOST_FIELDS, true);
    }

    private void checkParameters(Class<?> one) {
        List<Executable> all = new ArrayList<>(List.of(one.getDeclaredMethods()));
        all.addAll(List.<Constructor<?>>of(one.getDeclaredConstructors()));
        for (Executable method : all) {
            checks.due("rule 11: " + method + " takes few parameters", method.getParameterCount() <= MOST_PARAMETERS, true);
        }
        for (Method method : one.getDeclaredMethods()) {
            checks.due("rule 12: " + method + " is no equals, hashCode or toString",
                Set.of("equals", "hashCode", "toString").contains(method.getName()), false);
        }
    }
}
