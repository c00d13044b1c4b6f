/** A few lines of an account; behind each printed call stands what it answers. */
public final class Example {
    public static void main(String[] args) {
        CoinbookSorter sorter = new CoinbookSorter();

        // Lines: the text becomes the description; the day and the amount come with the call.
        text(sorter, "gas bill march");
        System.out.println(sorter.addLine(70, -4500));       // 0
        text(sorter, "gas bill april");
        System.out.println(sorter.addLine(101, -4650));      // 1
        text(sorter, "gas bill may");
        System.out.println(sorter.addLine(131, -4400));      // 2
        text(sorter, "tea shop");
        System.out.println(sorter.addLine(131, -350));       // 3
        System.out.println(sorter.lines());                  // 4
        System.out.println(sorter.categoryOf(0));            // -1, NONE
        System.out.println(sorter.reasonOf(0));              // 0, NO_REASON

        // Corrections: a person says that line 0 is of category 3, and its words teach that.
        System.out.println(sorter.correct(0, 3));            // -1, NONE before
        System.out.println(sorter.categoryOf(0));            // 3
        System.out.println(sorter.reasonOf(0));              // 1, CORRECTED
        System.out.println(sorter.categoryOf(1));            // 3
        System.out.println(sorter.reasonOf(1));              // 3, WEIGHTS
        System.out.println(sorter.categoryOf(3));            // -1, no word of it is taught

        // What was learned: line 3 teaches category 6, and both categories have a weight.
        System.out.println(sorter.correct(3, 6));            // -1
        text(sorter, "gas");
        System.out.println(sorter.taught(3));                // 1
        System.out.println(sorter.taughtCountedAnew(3));     // 1
        System.out.println(sorter.wordsTaught());            // 5
        System.out.println(sorter.weight(1, 3));             // -77
        System.out.println(sorter.weight(1, 6));             // -90
        System.out.println(sorter.rankedAt(1, 0));           // 3
        System.out.println(sorter.rankedAt(1, 1));           // 6
        System.out.println(sorter.rankedAt(1, 2));           // -1, no third one
        System.out.println(sorter.steps(1000));              // 79

        // Rules: this one holds for lines with the word "bill" and an amount up to -4600.
        text(sorter, "bill");
        System.out.println(sorter.addRule(5, -99999, -4600)); // 1
        System.out.println(sorter.ruleFor(1));               // 0
        System.out.println(sorter.categoryOf(1));            // 5
        System.out.println(sorter.reasonOf(1));              // 2, RULE
        System.out.println(sorter.ruleFor(0));               // -1, its amount is -4500
        System.out.println(sorter.linesIn(3));               // 2, the lines 0 and 2
        System.out.println(sorter.sumOf(3));                 // -8900
        System.out.println(sorter.removeRule(0));            // 5

        // Repetitions: without the months the three bills have the same telling words.
        System.out.println(sorter.alike(0));                 // 1
        text(sorter, "march april may");
        System.out.println(sorter.words());                  // 3
        System.out.println(sorter.addStops());               // 3
        System.out.println(sorter.alike(0));                 // 3
        System.out.println(sorter.period(0));                // 29
        System.out.println(sorter.nextDue(0));               // 160
        System.out.println(sorter.setSlack(1));              // 2
        System.out.println(sorter.period(0));                // 30
        System.out.println(sorter.removeStops());            // 3
        System.out.println(sorter.period(0));                // -1, alike with no other now

        // A call that the document refuses throws, and changes nothing.
        try {
            sorter.addLine(10000, -350);
        } catch (IllegalArgumentException refused) {
            System.out.println(sorter.lines());              // 4
        }
    }

    private static void text(CoinbookSorter sorter, String letters) {
        sorter.clearText();
        for (char letter : letters.toCharArray()) {
            sorter.type(letter);
        }
    }
}
