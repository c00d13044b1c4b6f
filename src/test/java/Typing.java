/** Short ways to bring a sorter into a state. */
final class Typing {
    private Typing() {
    }

    static void text(CoinbookSorter sorter, String letters) {
        sorter.clearText();
        for (int i = 0; i < letters.length(); i++) {
            sorter.type(letters.charAt(i));
        }
    }

    static int line(CoinbookSorter sorter, String description, int day, int amount) {
        text(sorter, description);
        return sorter.addLine(day, amount);
    }

    /** Lines of one description, one for each day, with one amount. */
    static void lines(CoinbookSorter sorter, String description, int amount, int... days) {
        text(sorter, description);
        for (int day : days) {
            sorter.addLine(day, amount);
        }
    }

    static int taughtLine(CoinbookSorter sorter, String description, int category) {
        int number = line(sorter, description, 0, 1);
        sorter.correct(number, category);
        return number;
    }

    static int rule(CoinbookSorter sorter, String required, int category, int lowest, int highest) {
        text(sorter, required);
        return sorter.addRule(category, lowest, highest);
    }

    static int stops(CoinbookSorter sorter, String letters) {
        text(sorter, letters);
        return sorter.addStops();
    }

    static int noStops(CoinbookSorter sorter, String letters) {
        text(sorter, letters);
        return sorter.removeStops();
    }

    static int taught(CoinbookSorter sorter, String word, int category) {
        text(sorter, word);
        return sorter.taught(category);
    }

    static int taughtAnew(CoinbookSorter sorter, String word, int category) {
        text(sorter, word);
        return sorter.taughtCountedAnew(category);
    }

    /** All answers that change nothing: equal strings mean that no question tells a change. */
    static String answers(CoinbookSorter sorter) {
        StringBuilder all = new StringBuilder();
        all.append(sorter.words()).append(' ').append(sorter.lines());
        all.append(' ').append(sorter.wordsTaught());
        for (int category = 0; category < 8; category++) {
            int asked = category;
            all.append(" c").append(sorter.linesIn(asked)).append('/').append(sorter.sumOf(asked));
            all.append('/').append(Check.outcome(() -> sorter.taught(asked)));
            all.append('/').append(Check.outcome(() -> sorter.taughtCountedAnew(asked)));
        }
        for (int line = 0; line < sorter.lines(); line++) {
            all.append(" l").append(sorter.categoryOf(line)).append('/');
            all.append(sorter.reasonOf(line)).append('/').append(sorter.ruleFor(line));
            all.append('/').append(sorter.rankedAt(line, 0)).append('/').append(sorter.alike(line));
            all.append('/').append(sorter.period(line)).append('/').append(sorter.nextDue(line));
        }
        return all.toString();
    }
}
