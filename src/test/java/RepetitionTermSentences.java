/** The sentences of "Terms" on repetitions. */
final class RepetitionTermSentences {
    private static final int NONE = CoinbookSorter.NONE;

    private RepetitionTermSentences() {
    }

    static void tell() {
        Doc.term("Two lines are alike if their descriptions have the same telling words, at least "
                + "one, and both amounts are above 0, or both below.",
                RepetitionTermSentences::whatIsAlike);
        Doc.term("All lines that are alike with a line, and this one, are put in order by rising "
                + "days, those of the same day by rising numbers; the gaps are the differences of "
                + "the days of each line and the next one.", RepetitionTermSentences::gaps);
        Doc.term("If there are at least 3 such lines, the period is that number from 2 to 400 for "
                + "which the most gaps differ from it by at most the slack, which is 2 days at "
                + "first; of several the lowest one.", RepetitionTermSentences::period);
        Doc.term("But there is a period only if these gaps are at least two thirds of all gaps.",
                RepetitionTermSentences::twoThirds);
    }

    private static void whatIsAlike() {
        CoinbookSorter x = new CoinbookSorter();
        Typing.lines(x, "gas bill", 1, 5);
        Typing.lines(x, "bill  gas bill", 99999, 5);
        Typing.lines(x, "gas of bill", 7, 9999);
        Typing.lines(x, "gas bill", -1, 5);
        Typing.lines(x, "gas bill", -99999, 0);
        Typing.lines(x, "gas", 1, 5);
        Typing.lines(x, "gas bill car", 1, 5);
        Typing.lines(x, "of", 1, 5, 5);
        Typing.stops(x, "of");
        int[] due = {3, 3, 3, 2, 2, 1, 1, 1, 1};
        for (int line = 0; line < due.length; line++) {
            Check.equal("alike with " + line, x.alike(line), due[line]);
        }
    }

    private static void gaps() {
        expectPeriod("in falling order", 29, 61, 30, 0);
        expectPeriod("in no order", 29, 30, 61, 0);
        expectPeriod("of the same day", 2, 7, 7, 7);
        expectPeriod("between days twice", 2, 0, 100, 0, 100, 0);
        expectPeriod("not to the one behind the next", NONE, 0, 15, 60, 70, 120);
        CoinbookSorter x = onDays(61, 0);
        Typing.lines(x, "oil", -900, 30);
        Typing.lines(x, "rent", 900, 30);
        Check.equal("of lines that are alike alone", x.period(0), NONE);
        Typing.lines(x, "rent", -1, 30);
        for (int line : new int[] {0, 1, 4}) {
            Check.equal("and this one, " + line, x.period(line), 29);
        }
    }

    private static void period() {
        expectPeriod("one line", NONE, 5);
        expectPeriod("two lines", NONE, 5, 35);
        expectPeriod("three lines", 28, 5, 35, 65);
        expectPeriod("of several the lowest", 29, 0, 30, 61);
        expectPeriod("just one of several", 30, 0, 28, 60);
        expectPeriod("no number for both", NONE, 0, 28, 61);
        expectPeriod("the most gaps, not the lowest", 58, 0, 30, 60, 120, 180, 240, 300);
        expectPeriod("slack 2 at first", 2, 0, 4, 8);
        expectPeriod("3 less 2 is below it", 3, 0, 5, 10);
        int[] slacks = {0, 0, 0, 0, 0, 10, 10, 10, 10, 1, 2, 2, 2, 2, 3};
        int[] wide = {0, 1, 2, 400, 401, 0, 12, 13, 410, 0, 0, 1, 402, 403, 403};
        int[] due = {NONE, NONE, 2, 400, NONE, 2, 2, 3, 400, NONE, 2, 2, 400, NONE, 400};
        for (int i = 0; i < wide.length; i++) {
            CoinbookSorter x = onDays(5, 5 + wide[i], 5 + 2 * wide[i]);
            x.setSlack(slacks[i]);
            Check.equal("gaps of " + wide[i] + ", slack " + slacks[i], x.period(0), due[i]);
        }
        CoinbookSorter far = onDays(0, 411, 822);
        far.setSlack(10);
        Check.equal("gaps of 411, slack 10", far.period(0), NONE);
        expectPeriod("the widest gaps", NONE, 0, 9999, 5000);
        expectPeriod("the widest one between two of 0", 2, 0, 9999, 0, 9999);
    }

    private static void twoThirds() {
        int[][] fittingOfAll = {{2, 2}, {2, 3}, {3, 4}, {4, 5}, {4, 6}, {6, 9}, {40, 59}, {59, 59}};
        for (int[] each : fittingOfAll) {
            Check.equal(each[0] + " of " + each[1], fitting(each[0], each[1]).period(0), 28);
        }
        int[][] tooFew = {{1, 2}, {1, 3}, {2, 4}, {3, 5}, {3, 6}, {5, 9}, {39, 59}};
        for (int[] each : tooFew) {
            Check.equal(each[0] + " of " + each[1], fitting(each[0], each[1]).period(0), NONE);
        }
    }

    /** So many gaps of 30 days, and behind them others, too far apart for a period of their own. */
    private static CoinbookSorter fitting(int fitting, int all) {
        int[] days = new int[all + 1];
        for (int gap = 0; gap < all; gap++) {
            days[gap + 1] = days[gap] + (gap < fitting ? 30 : 100 + 10 * (gap - fitting));
        }
        return onDays(days);
    }

    static CoinbookSorter onDays(int... days) {
        CoinbookSorter x = new CoinbookSorter();
        Typing.lines(x, "rent", -900, days);
        return x;
    }

    private static void expectPeriod(String what, int due, int... days) {
        Check.equal(what, onDays(days).period(0), due);
    }
}
