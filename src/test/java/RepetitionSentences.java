/** The sentences of the promises 23 to 26: repetitions. */
final class RepetitionSentences {
    private static final int NONE = CoinbookSorter.NONE;
    private static final Class<IllegalArgumentException> ARGUMENT = IllegalArgumentException.class;

    private RepetitionSentences() {
    }

    static void tell() {
        Doc.promise(23, "Sets the slack.", RepetitionSentences::setsTheSlack);
        Doc.promise(23, "`days`: 0 to 10", RepetitionSentences::slacks);
        Doc.promise(23, "Returns the slack before.", RepetitionSentences::slackBefore);
        Doc.promise(23, "Throws `IllegalArgumentException` if days is out of range",
                RepetitionSentences::noSlack);
        Doc.promise(24, "Returns how many lines are alike with a line, this one counted.",
                RepetitionSentences::howManyAlike);
        Doc.promise(24, "`line`: the number of a line",
                () -> Numbers.firstAndLastLine(CoinbookSorter::alike, 1, 4, 16, 1));
        Doc.promise(24, "Returns how many; 1 if it has no telling word.",
                RepetitionSentences::noTellingWord);
        Doc.promise(24, "Throws `IndexOutOfBoundsException` if there is no such line",
                () -> Numbers.noSuchLine(CoinbookSorter::alike));
        Doc.promise(25, "Returns the period of the lines that are alike with a line.",
                RepetitionSentences::periodOfAKind);
        Doc.promise(25, "`line`: the number of a line",
                () -> Numbers.firstAndLastLine(CoinbookSorter::period, NONE, 29, 28, NONE));
        Doc.promise(25, "Returns the period; NONE if there is none.",
                RepetitionSentences::periodOrNone);
        Doc.promise(25, "Throws `IndexOutOfBoundsException` if there is no such line",
                () -> Numbers.noSuchLine(CoinbookSorter::period));
        Doc.promise(26, "Returns the day at which the next line of the kind of a line is due: the "
                + "greatest day of the lines that are alike with it, and the period, together.",
                RepetitionSentences::dayDue);
        Doc.promise(26, "`line`: the number of a line",
                () -> Numbers.firstAndLastLine(CoinbookSorter::nextDue, NONE, 119, 10027, NONE));
        Doc.promise(26, "Returns the day; NONE if there is no period.",
                RepetitionSentences::dayOrNone);
        Doc.promise(26, "Throws `IndexOutOfBoundsException` if there is no such line",
                () -> Numbers.noSuchLine(CoinbookSorter::nextDue));
    }

    private static CoinbookSorter onDays(int... days) {
        return RepetitionTermSentences.onDays(days);
    }

    private static void setsTheSlack() {
        CoinbookSorter x = onDays(0, 30, 61);
        Check.equal("2 at first", x.period(0), 29);
        x.setSlack(0);
        Check.equal("0", x.period(0), NONE);
        x.setSlack(1);
        Check.equal("1", x.period(0), 30);
        x.setSlack(10);
        Check.equal("10", x.period(0), 21);
        Check.equal("for all lines", x.period(2), 21);
        Check.equal("no other sorter's", onDays(0, 30, 61).period(0), 29);
    }

    private static void slacks() {
        CoinbookSorter x = onDays(0, 50, 100);
        for (int slack = 0; slack <= 10; slack++) {
            x.setSlack(slack);
            Check.equal("slack " + slack, x.period(0), 50 - slack);
        }
        Check.equal("the greatest", x.setSlack(0), 10);
        Check.equal("the lowest", x.setSlack(0), 0);
    }

    private static void slackBefore() {
        CoinbookSorter x = new CoinbookSorter();
        int[] slacks = {10, 0, 0, 2, 5};
        int before = 2;
        for (int slack : slacks) {
            Check.equal("before " + slack, x.setSlack(slack), before);
            before = slack;
        }
        Check.raises("a refused one", ARGUMENT, () -> x.setSlack(11));
        Check.equal("is none before", x.setSlack(1), 5);
    }

    private static void noSlack() {
        for (State state : State.ALL) {
            for (int days : new int[] {-1, 11, -2, 12, Integer.MIN_VALUE, Integer.MAX_VALUE}) {
                state.refuses("slack " + days, ARGUMENT, x -> x.setSlack(days));
            }
        }
    }

    private static void howManyAlike() {
        State.FEW.keeps("one alone", 1, x -> x.alike(0));
        State.FEW.keeps("without the stop word", 4, x -> x.alike(2));
        State.FULL.keeps("of another sign", 4, x -> x.alike(4));
        State.FULL.keeps("of another description", 19, x -> x.alike(20));
        CoinbookSorter x = new CoinbookSorter();
        x.type('a');
        for (int line = 0; line < 60; line++) {
            x.addLine(0, line % 2 == 0 ? 1 + line : -99999);
            Check.equal("up to line " + line, x.alike(line), line / 2 + 1);
        }
        CoinbookSorter y = new CoinbookSorter();
        y.type('a');
        for (int line = 0; line < 60; line++) {
            y.addLine(line, 1);
        }
        Check.equal("all sixty", y.alike(0), 60);
        Check.equal("all sixty, asked for the last", y.alike(59), 60);
    }

    private static void noTellingWord() {
        State.FEW.keeps("a stop word alone", 1, x -> x.alike(5));
        State.FULL.keeps("one of 19 lines of a stop word", 1, x -> x.alike(40));
        CoinbookSorter x = new CoinbookSorter();
        Typing.lines(x, "of to", 1, 0, 30, 60);
        Check.equal("all three", x.alike(1), 3);
        Typing.stops(x, "of");
        Check.equal("one telling word", x.alike(1), 3);
        Typing.stops(x, "to");
        Check.equal("no telling word", x.alike(1), 1);
        Check.equal("and no period", x.period(1), NONE);
        Check.equal("and no day", x.nextDue(1), NONE);
        Typing.noStops(x, "of");
        Check.equal("a telling word again", x.alike(1), 3);
    }

    private static void periodOfAKind() {
        State.FEW.keeps("gaps 30, 30, 29 with slack 1", 29, x -> x.period(2));
        State.FULL.keeps("gaps of 30 and 60", 28, x -> x.period(18));
        State.FULL.keeps("gaps of 150", 148, x -> x.period(4));
        State.FULL.keeps("gaps of 7", 5, x -> x.period(38));
        CoinbookSorter x = onDays(0, 50, 100);
        Typing.lines(x, "oil", -900, 20, 10, 30);
        Typing.lines(x, "rent", 900, 25, 30, 20);
        for (int line = 0; line < 9; line++) {
            Check.equal("line " + line, x.period(line), line < 3 ? 48 : line < 6 ? 8 : 3);
        }
        // A day of the longer kind, behind those of the shorter, would complete its period.
        CoinbookSorter y = onDays(0, 100, 200, 310, 408);
        Typing.lines(y, "oil", -900, 50, 150, 210);
        Check.equal("the longer kind", y.period(0), 98);
        Check.equal("nothing of it in the shorter", y.period(5), NONE);
    }

    private static void periodOrNone() {
        Check.equal("one line", onDays(0).period(0), NONE);
        Check.equal("two lines", onDays(0, 30).period(0), NONE);
        Check.equal("three lines", onDays(0, 30, 60).period(0), 28);
        Check.equal("the lowest", onDays(3, 3, 3).period(0), 2);
        Check.equal("the greatest", onDays(9999, 9597, 9195).period(0), 400);
        Check.equal("above it", onDays(9999, 9596, 9193).period(0), NONE);
        State.FULL.keeps("19 lines without telling words", NONE, x -> x.period(39));
        CoinbookSorter x = onDays(0, 30, 60);
        x.addLine(1000, -1);
        Check.equal("two of three gaps", x.period(3), 28);
        x.addLine(3000, -1);
        Check.equal("two of four gaps", x.period(3), NONE);
    }

    private static void dayDue() {
        CoinbookSorter x = onDays(60, 0, 30);
        Typing.lines(x, "oil", -900, 9999);
        Typing.lines(x, "rent", 900, 9999);
        for (int line = 0; line < 3; line++) {
            Check.equal("behind the greatest day, " + line, x.nextDue(line), 88);
        }
        Check.equal("the first day", onDays(0, 0, 0).nextDue(0), 2);
        Check.equal("the last day", onDays(9195, 9999, 9597).nextDue(0), 10399);
        Check.equal("a gap that does not fit", onDays(0, 30, 60, 500).nextDue(0), 528);
        CoinbookSorter sixty = new CoinbookSorter();
        sixty.type('a');
        for (int line = 0; line < 60; line++) {
            sixty.addLine(9999 - 150 * line, 1);
        }
        Check.equal("sixty lines", sixty.nextDue(59), 10147);
        State.FEW.keeps("90 and 29", 119, y -> y.nextDue(3));
        State.FULL.keeps("9999 and 28", 10027, y -> y.nextDue(18));
        State.FULL.keeps("126 and 5", 131, y -> y.nextDue(20));
    }

    private static void dayOrNone() {
        Check.equal("one line", onDays(0).nextDue(0), NONE);
        Check.equal("two lines", onDays(0, 30).nextDue(1), NONE);
        Check.equal("no two thirds", onDays(0, 30, 160).nextDue(0), NONE);
        Check.equal("above the greatest period", onDays(0, 403, 806).nextDue(0), NONE);
        State.FEW.keeps("one alone", NONE, x -> x.nextDue(0));
        State.FULL.keeps("no telling words", NONE, x -> x.nextDue(57));
    }
}
