/** Numbers that are no line's or no category's, and the tests that each call refuses them. */
final class Numbers {
    /** A call about a line or a category. */
    interface AskOf {
        int of(CoinbookSorter sorter, int number);
    }

    private static final int[] FAR = {-1, -2, Integer.MIN_VALUE, Integer.MAX_VALUE};
    private static final State[] STATES = {State.NEW, State.FEW, State.FULL};

    private Numbers() {
    }

    /** The first and the last number of a line are lines; with 60 lines, the last is 59. */
    static void firstAndLastLine(AskOf call, int... dueInFewAndFull) {
        int due = 0;
        for (State state : new State[] {State.FEW, State.FULL}) {
            for (int line : new int[] {0, state.lines() - 1}) {
                Check.equal("line " + line + " of " + state.lines(),
                        call.of(state.make(), line), dueInFewAndFull[due]);
                due++;
            }
        }
    }

    static void noSuchLine(AskOf call) {
        for (State state : STATES) {
            refuses(state, "line ", call, FAR);
            refuses(state, "line ", call, state.lines(), state.lines() + 1);
        }
        refuses(State.NEW, "line ", call, 59, 60);
        refuses(State.FEW, "line ", call, 59, 60);
    }

    static void noSuchCategory(AskOf call) {
        for (State state : STATES) {
            refuses(state, "category ", call, FAR);
            refuses(state, "category ", call, 8, 9);
        }
    }

    private static void refuses(State state, String what, AskOf call, int... numbers) {
        for (int number : numbers) {
            state.refuses(what + number, IndexOutOfBoundsException.class, x -> call.of(x, number));
        }
    }
}
