import java.util.ArrayList;
import java.util.List;

/**
 * The edges of the arguments of one call: each least and greatest value is taken, the values next to them are refused,
 * the exception named first comes first, and a refused call changes nothing.
 */
final class CallEdges {
    interface Use {
        void on(GridMarket x, int[] a);
    }

    private record Argument(int place, String sentence, Class<?> wrong, int least, int most, int[] others) {
        int[] with(int value) {
            int[] all = others.clone();
            all[place] = value;
            return all;
        }
    }

    private record State(String what, Edges.Build build, int[] arguments) { }

    private final Edges edges;
    private final int promise;
    private final Edges.Build build;
    private final Use use;
    private final int[] usual;
    private final List<Argument> arguments = new ArrayList<>();
    private final List<State> states = new ArrayList<>();

    /** The usual arguments are such that the call answers on what build makes. */
    CallEdges(Edges edges, int promise, Edges.Build build, Use use, int... usual) {
        this.edges = edges;
        this.promise = promise;
        this.build = build;
        this.use = use;
        this.usual = usual;
    }

    CallEdges index(int place, String sentence, int least, int most, int... others) {
        return argument(place, sentence, Checks.INDEX, least, most, others);
    }

    CallEdges range(int place, String sentence, int least, int most, int... others) {
        return argument(place, sentence, Checks.ARGUMENT, least, most, others);
    }

    private CallEdges argument(int place, String sentence, Class<?> wrong, int least, int most, int[] others) {
        arguments.add(new Argument(place, sentence, wrong, least, most, others.length > 0 ? others : usual));
        return this;
    }

    /** A state in which the call is refused with these arguments; the usual ones, if none are given. */
    CallEdges refusedIn(String what, Edges.Build inState, int... with) {
        states.add(new State(what, inState, with.length > 0 ? with : usual));
        return this;
    }

    /** Sentences that are null are not in the document: the call does not throw that. */
    void check(String throwsIndex, String throwsArgument, String throwsState) {
        for (Argument argument : arguments) {
            edges.promise(promise, argument.sentence);
            checkEdges(argument);
        }
        if (throwsIndex != null) {
            edges.promise(promise, throwsIndex);
            checkWrong(Checks.INDEX);
        }
        if (throwsArgument != null) {
            edges.promise(promise, throwsArgument);
            checkWrong(Checks.ARGUMENT);
        }
        if (throwsState != null) {
            edges.promise(promise, throwsState);
            for (State state : states) {
                refused(state.what, Checks.STATE, state.build, state.arguments);
            }
        }
    }

    private void checkEdges(Argument argument) {
        for (int value : new int[] {argument.least, argument.most}) {
            int[] all = argument.with(value);
            edges.taken(textOf(all) + " is taken", () -> use.on(build.make(), all));
        }
        for (int value : wrongOf(argument)) {
            refused("", argument.wrong, build, argument.with(value));
        }
    }

    private static int[] wrongOf(Argument argument) {
        return new int[] {argument.least - 1, argument.most + 1, Integer.MIN_VALUE, Integer.MAX_VALUE};
    }

    /** Wrong arguments of one kind alone, with those of a later kind, and in each wrong state. */
    private void checkWrong(Class<?> kind) {
        for (Argument argument : arguments) {
            if (argument.wrong == kind) {
                checkWrong(argument, argument.least - 1);
                checkWrong(argument, argument.most + 1);
            }
        }
    }

    private void checkWrong(Argument argument, int value) {
        refused("", argument.wrong, build, argument.with(value));
        for (State state : states) {
            int[] all = state.arguments.clone();
            all[argument.place] = value;
            refused("ahead of the state " + state.what, argument.wrong, state.build, all);
        }
        if (argument.wrong == Checks.INDEX) {
            for (Argument later : arguments) {
                if (later.wrong == Checks.ARGUMENT) {
                    checkWrongBoth(argument.with(value), later.place, later.most + 1);
                    checkWrongBoth(argument.with(value), later.place, later.least - 1);
                }
            }
        }
    }

    private void checkWrongBoth(int[] all, int place, int value) {
        all[place] = value;
        refused("ahead of a wrong argument", Checks.INDEX, build, all);
        for (State state : states) {
            refused("ahead of a wrong argument and the state " + state.what, Checks.INDEX, state.build, all);
        }
    }

    private void refused(String what, Class<?> wrong, Edges.Build in, int[] all) {
        edges.refused(textOf(all) + " " + what, wrong, in, x -> use.on(x, all));
    }

    private static String textOf(int[] all) {
        return "arguments " + java.util.Arrays.toString(all);
    }
}
