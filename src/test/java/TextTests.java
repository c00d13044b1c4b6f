/** Promises 1 to 6: a new object, the text, stop words. */
public final class TextTests {
    public static void main(String[] args) {
        newObject();
        type();
        typeRefuses();
        clearText();
        onlyTypeAndClearChangeTheText();
        words();
        addStops();
        addStopsAtTheLimit();
        removeStops();
        Check.close("TextTests");
    }

    private static void newObject() {
        CoinbookSorter x = new CoinbookSorter();
        Check.equal("1 lines", x.lines(), 0);
        Check.equal("1 words", x.words(), 0);
        Check.equal("1 wordsTaught", x.wordsTaught(), 0);
        Check.equal("1 no stop words to remove", x.removeStops(), 0);
        Check.equal("1 all letters are no stop words",
                Typing.stops(x, "a b c d e f g h i j k l m n o p q r s t"), 20);
        Check.equal("1 the text is empty", new CoinbookSorter().clearText(), 0);
        Check.raises("1 no rule", IndexOutOfBoundsException.class, () -> x.removeRule(0));
        Check.raises("1 no line", IndexOutOfBoundsException.class, () -> x.categoryOf(0));
        Check.equal("1 slack is 2", x.setSlack(0), 2);
        for (int category = 0; category < 8; category++) {
            Check.equal("1 linesIn", x.linesIn(category), 0);
            Check.equal("1 sumOf", x.sumOf(category), 0);
        }
    }

    private static void type() {
        CoinbookSorter x = new CoinbookSorter();
        String typed = "a bcdefghijklmnopqrstuvwxyz abcdefghijkl";
        for (int i = 0; i < 40; i++) {
            Check.equal("2 type " + i, x.type(typed.charAt(i)), i + 1);
        }
        Check.equal("2 words of the full text", x.words(), 3);
    }

    private static void typeRefuses() {
        CoinbookSorter x = new CoinbookSorter();
        char[] others = {'A', 'Z', 96, 123, '0', '-', '\t', '\n', 31, 33, 0, 127, 160, 228, 255,
            945, 0xff41, 0xffff};
        for (char other : others) {
            Check.raises("2 other character " + (int) other, IllegalArgumentException.class,
                    () -> x.type(other));
        }
        Check.equal("2 nothing was typed", x.type('z'), 1);
        for (int i = 1; i < 40; i++) {
            x.type(' ');
        }
        Check.raises("2 the 41st", IllegalStateException.class, () -> x.type('a'));
        Check.raises("2 the 41st, a space", IllegalStateException.class, () -> x.type(' '));
        Check.raises("2 the argument first", IllegalArgumentException.class, () -> x.type('A'));
        Check.equal("2 a full text stays", x.words(), 1);
        Check.equal("2 a full text has 40", x.clearText(), 40);
        Check.equal("2 types again", x.type('a'), 1);
    }

    private static void clearText() {
        CoinbookSorter x = new CoinbookSorter();
        Typing.text(x, " ab ");
        Check.equal("3 had 4", x.clearText(), 4);
        Check.equal("3 had none", x.clearText(), 0);
        Check.equal("3 no words", x.words(), 0);
        Check.equal("3 types from the start", x.type('q'), 1);
    }

    private static void onlyTypeAndClearChangeTheText() {
        CoinbookSorter x = new CoinbookSorter();
        Typing.text(x, "ab c");
        x.addStops();
        x.removeStops();
        x.addRule(0, 1, 2);
        x.removeRule(0);
        x.addLine(1, 1);
        x.correct(0, 1);
        Typing.answers(x);
        Check.equal("3 the words stay", x.words(), 2);
        Check.equal("3 the text stays", x.clearText(), 4);
        Check.equal("3 the line keeps its description", x.lines(), 1);
        Check.equal("3 taught by the line's own words", Typing.taught(x, "ab", 1), 1);
    }

    private static void words() {
        String[] texts = {"", "   ", "a", " a ", "a a", "a aa aaa", "ab ba", "  ab   cd  ab",
            "a b c d e f g h i j k l m n o p q r s t", "aa ab aa ab", "abc ab c",
            "abcdefghijklmnopqrstuvwxyzabcdefghijklmn"};
        int[] due = {0, 0, 1, 1, 1, 3, 2, 2, 20, 2, 3, 1};
        for (int i = 0; i < texts.length; i++) {
            CoinbookSorter x = new CoinbookSorter();
            Typing.text(x, texts[i]);
            Check.equal("4 words of '" + texts[i] + "'", x.words(), due[i]);
        }
    }

    private static void addStops() {
        CoinbookSorter x = new CoinbookSorter();
        Check.equal("5 no words", x.addStops(), 0);
        Check.equal("5 a word twice counts once", Typing.stops(x, "a b a"), 2);
        Check.equal("5 again", x.addStops(), 0);
        Check.equal("5 some are new", Typing.stops(x, "b c aa"), 2);
        Check.equal("5 all four are stop words", Typing.noStops(x, "a b c aa d"), 4);

        CoinbookSorter y = new CoinbookSorter();
        Typing.taughtLine(y, "of gas", 3);
        Check.equal("5 taught before", Typing.taught(y, "of", 3), 1);
        y.addStops();
        Check.equal("5 a stop word is not taught", y.taught(3), 0);
        Typing.taughtLine(y, "of oil", 3);
        Check.equal("5 nor by later lines", Typing.taught(y, "of", 3), 0);
        Check.equal("5 others are", Typing.taught(y, "oil", 3), 1);
    }

    private static void addStopsAtTheLimit() {
        CoinbookSorter x = new CoinbookSorter();
        Typing.stops(x, "a b c d e f g h i j k l m n o p q r s t");
        Check.equal("5 29 stop words", Typing.stops(x, "u v w x y z aa bb cc"), 9);
        Typing.text(x, "a dd ee");
        Check.raises("5 31 would be too many", IllegalStateException.class, x::addStops);
        Check.equal("5 none of them became one", Typing.stops(x, "dd"), 1);
        Check.equal("5 30, and all were before", Typing.stops(x, "a dd z"), 0);
        Typing.text(x, "ee");
        Check.raises("5 the 31st", IllegalStateException.class, x::addStops);
        Check.equal("5 no words at the limit", Typing.stops(x, " "), 0);
        Typing.noStops(x, "dd");
        Check.equal("5 room again", Typing.stops(x, "ee"), 1);
    }

    private static void removeStops() {
        CoinbookSorter x = new CoinbookSorter();
        Typing.stops(x, "a b c");
        Check.equal("6 no words", Typing.noStops(x, ""), 0);
        Check.equal("6 other words", Typing.noStops(x, "d aa"), 0);
        Check.equal("6 two of three", Typing.noStops(x, "c d a c"), 2);
        Check.equal("6 not again", x.removeStops(), 0);
        Check.equal("6 b is left", Typing.noStops(x, "a b c"), 1);

        CoinbookSorter y = new CoinbookSorter();
        Typing.stops(y, "gas");
        Typing.taughtLine(y, "gas bill", 2);
        Check.equal("6 one word is taught", y.wordsTaught(), 1);
        Typing.noStops(y, "gas");
        Check.equal("6 two words are taught", y.wordsTaught(), 2);
        Check.equal("6 taught from when it was a stop word", y.taught(2), 1);
    }
}
