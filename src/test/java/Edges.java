import java.util.List;

/** Checks of single sentences of the document: each answer is told with the promise and the sentence it stands for. */
final class Edges {
    interface Build {
        GridMarket make();
    }

    interface Use {
        void on(GridMarket x);
    }

    private final Document document = new Document();
    private final Checks checks = new Checks();
    private String where = "";

    /** What follows is asked because of a sentence of a promise. */
    void promise(int number, String sentence) {
        says("Promise " + number, sentence);
    }

    /** What follows is asked because of a sentence under a heading ahead of the promises. */
    void says(String part, String sentence) {
        where = part + ", '" + sentence + "': ";
        checks.due(where + "is a sentence of the document", document.quote(part, sentence), true);
    }

    void due(String what, long got, long want) {
        checks.due(where + what, got, want);
    }

    void due(String what, boolean got, boolean want) {
        checks.due(where + what, got, want);
    }

    void dueThrow(String what, Class<?> want, Checks.Call call) {
        checks.dueThrow(where + what, want, call);
    }

    /** A call that must answer, whatever it is. */
    void taken(String what, Checks.Call call) {
        checks.dueThrow(where + what, null, call);
    }

    /** A call that must throw, and leave all as it is with an object that never had the call. */
    void refused(String what, Class<?> want, Build build, Use use) {
        GridMarket with = build.make();
        checks.dueThrow(where + what, want, () -> use.on(with));
        checks.due(where + what + ": a call that throws changes nothing", Story.of(with).equals(Story.of(build.make())), true);
    }

    /** A call that must answer, and leave all as it is with an object that never had the call. */
    void harmless(String what, Build build, Use use) {
        GridMarket with = build.make();
        taken(what, () -> use.on(with));
        checks.due(where + what + ": changes nothing", Story.of(with).equals(Story.of(build.make())), true);
    }

    void end() {
        List<String> rest = document.unquoted();
        for (String sentence : rest) {
            System.out.println("no test quotes " + sentence);
        }
        checks.due("sentences without a test", rest.size(), 0);
        checks.end();
    }
}
