import java.lang.reflect.Constructor;
import java.lang.reflect.Field;
import java.lang.reflect.Method;
import java.lang.reflect.Modifier;
import java.nio.file.Files;
import java.nio.file.Path;
import java.util.ArrayList;
import java.util.HashSet;
import java.util.List;
import java.util.Set;

/** The face is the document's: its members, and no other that can be seen from outside. */
public final class FaceTest {
    public static void main(String[] args) throws Exception {
        Checks checks = new Checks();
        Set<String> want = faceOfDocument();
        Set<String> got = new HashSet<>();
        Set<String> faceNames = new HashSet<>();
        for (Method method : GridMarket.class.getDeclaredMethods()) {
            if (!Modifier.isPrivate(method.getModifiers())) {
                got.add(textOf(method));
                faceNames.add(method.getName());
            }
        }
        for (String line : want) {
            checks.due("missing: " + line, got.contains(line), true);
        }
        for (String line : got) {
            checks.due("too much: " + line, want.contains(line), true);
        }
        checks.due("methods in the document", want.size(), 33 - 1);
        for (Method method : GridMarket.class.getDeclaredMethods()) {
            if (Modifier.isPrivate(method.getModifiers())) {
                checks.due("private " + method.getName() + " bears a public name", faceNames.contains(method.getName()), false);
            }
        }
        checkInnerClasses(checks, faceNames);
        Set<String> constants = new HashSet<>();
        for (Field field : GridMarket.class.getDeclaredFields()) {
            if (!Modifier.isPrivate(field.getModifiers())) {
                constants.add(field.getName());
                checks.due(field.getName() + " is public static final", field.getModifiers(),
                    Modifier.PUBLIC | Modifier.STATIC | Modifier.FINAL);
            }
        }
        checks.due("constants", constants.equals(Set.of("NONE", "BIDS", "OFFERS")), true);
        checks.due("NONE", GridMarket.NONE, -1);
        checks.due("BIDS", GridMarket.BIDS, 0);
        checks.due("OFFERS", GridMarket.OFFERS, 1);
        Constructor<?>[] makers = GridMarket.class.getDeclaredConstructors();
        checks.due("constructors", makers.length, 1);
        checks.due("constructor is public", Modifier.isPublic(makers[0].getModifiers()), true);
        checks.due("constructor takes", makers[0].getParameterCount(), 0);
        checks.due("class is public and final", GridMarket.class.getModifiers(), Modifier.PUBLIC | Modifier.FINAL);
        checks.end();
    }

    private static void checkInnerClasses(Checks checks, Set<String> faceNames) {
        Class<?>[] inner = GridMarket.class.getDeclaredClasses();
        checks.due("classes inside are few", inner.length < 12, true);
        for (Class<?> one : inner) {
            checks.due(one.getName() + " is private", Modifier.isPrivate(one.getModifiers()), true);
            checks.due(one.getName() + " is static", Modifier.isStatic(one.getModifiers()), true);
            for (Method method : one.getDeclaredMethods()) {
                checks.due(one.getName() + "." + method.getName() + " bears a public name", faceNames.contains(method.getName()), false);
            }
        }
    }

    private static Set<String> faceOfDocument() throws Exception {
        Set<String> face = new HashSet<>();
        String text = Files.readString(Path.of("../shared/DOC.md"));
        String part = text.substring(text.indexOf("```java"));
        part = part.substring(0, part.indexOf("\n```"));
        for (String line : part.split("\n")) {
            String call = line.trim();
            if (call.startsWith("public ") && call.contains("(") && !call.startsWith("public GridMarket")) {
                face.add(withoutNames(call));
            }
        }
        return face;
    }

    private static String withoutNames(String call) {
        String inner = call.substring(call.indexOf('(') + 1, call.indexOf(')'));
        List<String> types = new ArrayList<>();
        for (String one : inner.split(",")) {
            types.add(one.trim().split(" ")[0]);
        }
        String throwing = call.contains("throws ") ? call.substring(call.indexOf("throws ") + 7).replace(";", "").replace(" ", "") : "";
        String head = call.substring("public ".length(), call.indexOf('('));
        return head + "(" + String.join(",", types) + ") " + throwing;
    }

    private static String textOf(Method method) {
        List<String> types = new ArrayList<>();
        for (Class<?> type : method.getParameterTypes()) {
            types.add(type.getSimpleName());
        }
        List<String> throwing = new ArrayList<>();
        for (Class<?> type : method.getExceptionTypes()) {
            throwing.add(type.getSimpleName());
        }
        return method.getReturnType().getSimpleName() + " " + method.getName() + "(" + String.join(",", types) + ") "
            + String.join(",", throwing);
    }
}
