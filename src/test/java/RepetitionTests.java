/** Promises 23 to 26: repetitions. */
public final class RepetitionTests {
    public static void main(String[] args) {
        setSlack();
        alike();
        alikeChangesWithStopWords();
        periodNeedsThreeLines();
        periodOfSeveralTheLowest();
        periodBounds();
        periodNeedsTwoThirds();
        periodWithSlack();
        linesOfOneDay();
        questionsStandAlone();
        nextDue();
        allSixtyLines();
        unknownLines();
        Check.close("RepetitionTests");
    }

    private static CoinbookSorter onDays(int... days) {
        CoinbookSorter x = new CoinbookSorter();
        Typing.text(x, "rent");
        for (int day : days) {
            x.addLine(day, -900);
        }
        return x;
    }

    private static void expectPeriod(String what, int due, int... days) {
        Check.equal("25 " + what, onDays(days).period(0), due);
    }

    private static void setSlack() {
        CoinbookSorter x = new CoinbookSorter();
        Check.equal("23 2 at first", x.setSlack(10), 2);
        int[] wrong = {-1, 11, Integer.MIN_VALUE, Integer.MAX_VALUE};
        for (int days : wrong) {
            Check.raises("23 slack " + days, IllegalArgumentException.class,
                    () -> x.setSlack(days));
        }
        Check.equal("23 10 before", x.setSlack(0), 10);
        Check.equal("23 0 before", x.setSlack(3), 0);
    }

    private static void alike() {
        CoinbookSorter x = new CoinbookSorter();
        int[] lines = {
            Typing.line(x, "gas bill", 3, -5),
            Typing.line(x, "bill  gas bill", 9, -99999),
            Typing.line(x, "gas bill", 9, 1),
            Typing.line(x, "gas", 9, -5),
            Typing.line(x, "gas bill car", 9, -5),
            Typing.line(x, "gasbill", 9, -5),
            Typing.line(x, "bill gas", 1, 5),
            Typing.line(x, "gas bil", 1, 5)};
        int[] due = {2, 2, 2, 1, 1, 1, 2, 1};
        for (int i = 0; i < lines.length; i++) {
            Check.equal("24 line " + i, x.alike(lines[i]), due[i]);
        }
    }

    private static void alikeChangesWithStopWords() {
        CoinbookSorter x = new CoinbookSorter();
        Typing.line(x, "gas of", 1, 1);
        Typing.line(x, "gas to", 2, 1);
        Typing.line(x, "of", 3, 1);
        Typing.line(x, "to", 4, 1);
        Check.equal("24 other words", x.alike(0), 1);
        Typing.stops(x, "of to");
        Check.equal("24 the same telling words", x.alike(0), 2);
        Check.equal("24 no telling word", x.alike(2), 1);
        Typing.noStops(x, "to");
        Check.equal("24 no stop word again", x.alike(0), 1);
        Typing.stops(x, "gas to");
        Check.equal("24 no line has a telling word", x.alike(0), 1);
    }

    private static void periodNeedsThreeLines() {
        expectPeriod("one line", -1, 5);
        expectPeriod("two lines", -1, 5, 35);
        expectPeriod("three lines", 28, 5, 35, 65);
        CoinbookSorter x = onDays(0, 30, 60);
        x.addLine(90, 900);
        Check.equal("25 another sign is not alike", x.period(3), CoinbookSorter.NONE);
        x.addStops();
        Check.equal("25 no telling words", x.period(0), CoinbookSorter.NONE);
    }

    private static void periodOfSeveralTheLowest() {
        expectPeriod("30 and 31", 29, 0, 30, 61);
        expectPeriod("28 and 32", 30, 0, 28, 60);
        expectPeriod("28 and 33: one of two", -1, 0, 28, 61);
        expectPeriod("in another order", 29, 61, 0, 30);
        expectPeriod("the most fit", 28, 0, 30, 60, 90, 97);
    }

    private static void periodBounds() {
        expectPeriod("gaps of 1", 2, 0, 1, 2);
        expectPeriod("gaps of 4", 2, 0, 4, 8);
        expectPeriod("gaps of 5", 3, 0, 5, 10);
        expectPeriod("gaps of 400", 398, 0, 400, 800);
        expectPeriod("gaps of 402", 400, 0, 402, 804);
        expectPeriod("gaps of 403", -1, 0, 403, 806);
        CoinbookSorter x = onDays(0, 400, 800);
        x.setSlack(0);
        Check.equal("25 the greatest period", x.period(0), 400);
        CoinbookSorter y = onDays(0, 401, 802);
        y.setSlack(0);
        Check.equal("25 above the greatest", y.period(0), CoinbookSorter.NONE);
        CoinbookSorter z = onDays(0, 2, 4);
        z.setSlack(0);
        Check.equal("25 the lowest period", z.period(0), 2);
        CoinbookSorter w = onDays(0, 1, 2);
        w.setSlack(0);
        Check.equal("25 below the lowest", w.period(0), CoinbookSorter.NONE);
        w.setSlack(10);
        Check.equal("25 far slack", w.period(0), 2);
    }

    private static void periodNeedsTwoThirds() {
        expectPeriod("2 of 3 gaps", 28, 0, 30, 60, 160);
        expectPeriod("1 of 2 gaps", -1, 0, 30, 160);
        expectPeriod("3 of 5 gaps", -1, 0, 30, 60, 90, 190, 250);
        expectPeriod("4 of 6 gaps", 28, 0, 30, 60, 90, 120, 220, 420);
        expectPeriod("3 of 4 gaps", 28, 0, 30, 60, 90, 190);
    }

    private static void periodWithSlack() {
        CoinbookSorter x = onDays(0, 30, 61, 91);
        Check.equal("25 slack 2", x.period(0), 29);
        x.setSlack(1);
        Check.equal("25 slack 1", x.period(0), 30);
        x.setSlack(0);
        Check.equal("25 slack 0", x.period(0), 30);
        x.setSlack(10);
        Check.equal("25 slack 10", x.period(0), 21);
        CoinbookSorter y = onDays(0, 10, 30);
        Check.equal("25 10 and 20 with 2", y.period(0), CoinbookSorter.NONE);
        y.setSlack(5);
        Check.equal("25 10 and 20 with 5", y.period(0), 15);
        y.setSlack(4);
        Check.equal("25 10 and 20 with 4", y.period(0), CoinbookSorter.NONE);
    }

    private static void linesOfOneDay() {
        expectPeriod("gaps of 0", 2, 7, 7, 7);
        CoinbookSorter x = onDays(7, 7, 7);
        x.setSlack(1);
        Check.equal("25 gaps of 0, slack 1", x.period(0), CoinbookSorter.NONE);
        expectPeriod("0 among 30", 28, 30, 0, 30, 60, 90);
    }

    private static void questionsStandAlone() {
        // The fourth day of the longer kind would complete the shorter one's period.
        CoinbookSorter x = onDays(0, 100, 200, 310, 408);
        Typing.line(x, "gas", 50, -1);
        Typing.line(x, "gas", 150, -1);
        Typing.line(x, "gas", 210, -1);
        Check.equal("25 the longer kind", x.period(0), 98);
        Check.equal("25 no days of it in the shorter", x.period(5), CoinbookSorter.NONE);
        Check.equal("24 nor lines", x.alike(5), 3);
        Check.equal("26 the longer kind again", x.nextDue(0), 506);
    }

    private static void allSixtyLines() {
        CoinbookSorter x = new CoinbookSorter();
        Typing.text(x, "rent");
        for (int i = 59; i >= 0; i--) {
            x.addLine(i * 10, 1);
        }
        Check.equal("24 sixty", x.alike(30), 60);
        Check.equal("25 sixty", x.period(30), 8);
        Check.equal("26 sixty", x.nextDue(30), 598);
        Check.raises("9 a line too many", IllegalStateException.class, () -> x.addLine(1, 1));
        Check.equal("26 sixty still", x.nextDue(30), 598);
    }

    private static void nextDue() {
        CoinbookSorter x = onDays(61, 0, 30);
        Check.equal("26 61 and 29", x.nextDue(2), 90);
        Check.equal("26 from any of them", x.nextDue(0), 90);
        x.setSlack(0);
        Check.equal("26 no period", x.nextDue(0), CoinbookSorter.NONE);
        Check.equal("26 two lines", onDays(0, 30).nextDue(0), CoinbookSorter.NONE);
        Check.equal("26 behind the greatest day", onDays(9979, 9989, 9999).nextDue(0), 10007);
        CoinbookSorter y = onDays(0, 30, 60);
        y.addLine(500, 900);
        Check.equal("26 only lines that are alike", y.nextDue(0), 88);
    }

    private static void unknownLines() {
        CoinbookSorter x = onDays(0, 30, 60);
        int[] noLines = {-1, 3, 60, Integer.MIN_VALUE, Integer.MAX_VALUE};
        for (int line : noLines) {
            Check.raises("24 line " + line, IndexOutOfBoundsException.class, () -> x.alike(line));
            Check.raises("25 line " + line, IndexOutOfBoundsException.class,
                    () -> x.period(line));
            Check.raises("26 line " + line, IndexOutOfBoundsException.class,
                    () -> x.nextDue(line));
        }
    }
}
