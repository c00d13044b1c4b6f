/** The sentences of the promises 1 to 6: a new object, the text, stop words. */
final class TextSentences {
    private static final Class<IllegalArgumentException> ARGUMENT = IllegalArgumentException.class;
    private static final Class<IllegalStateException> STATE = IllegalStateException.class;
    private static final String TWENTY_WORDS = "a b c d e f g h i j k l m n o p q r s t";
    private static final String NINE_WORDS = "u v w x y z aa bb cc";

    private TextSentences() {
    }

    static void tell() {
        Doc.promise(1, "Creates a sorter without lines, rules and stop words; the text is empty.",
                TextSentences::newObject);
        Doc.promise(2, "Types a character behind the text.", TextSentences::typedBehind);
        Doc.promise(2, "`character`: a letter a to z, or a space", TextSentences::typedCharacters);
        Doc.promise(2, "Returns how many characters the text has then.",
                TextSentences::lengthThen);
        Doc.promise(2, "Throws `IllegalArgumentException` if it is another character",
                TextSentences::otherCharacters);
        Doc.promise(2, "Throws `IllegalStateException` if the text has 40 characters",
                TextSentences::fullText);
        Doc.promise(3, "Empties the text.", TextSentences::empties);
        Doc.promise(3, "Only type() changes it otherwise.", TextSentences::onlyType);
        Doc.promise(3, "Returns how many characters it had.", TextSentences::lengthBefore);
        Doc.promise(4, "Returns how many different words the text has.",
                TextSentences::differentWords);
        Doc.promise(5, "Makes all words of the text stop words.", TextSentences::makesStops);
        Doc.promise(5, "Returns how many of them were none before.",
                TextSentences::noneBefore);
        Doc.promise(5, "Throws `IllegalStateException` if there would be more than 30 stop words",
                TextSentences::mostStops);
        Doc.promise(6, "Makes no word of the text a stop word.", TextSentences::unmakesStops);
        Doc.promise(6, "Returns how many of them were stop words before.",
                TextSentences::stopsBefore);
    }

    private static void newObject() {
        State.FULL.make();
        CoinbookSorter x = new CoinbookSorter();
        Check.equal("no lines", x.lines(), 0);
        Check.equal("no text", x.clearText(), 0);
        Check.equal("no words", x.words(), 0);
        Check.equal("nothing taught", x.wordsTaught(), 0);
        for (int category = 0; category < 8; category++) {
            Check.equal("none in " + category, x.linesIn(category), 0);
            Check.equal("no sum in " + category, x.sumOf(category), 0);
        }
        Check.raises("no line 0", IndexOutOfBoundsException.class, () -> x.categoryOf(0));
        Check.raises("no rule 0", IndexOutOfBoundsException.class, () -> x.removeRule(0));
        for (String words : new String[] {TWENTY_WORDS, NINE_WORDS, "of gas oil bill dd"}) {
            Check.equal("no stop words", Typing.noStops(x, words), 0);
        }
        CoinbookSorter y = new CoinbookSorter();
        Check.raises("no description", STATE, () -> y.addLine(0, 1));
        Check.equal("the first character", y.type('a'), 1);
        Check.equal("the first line", y.addLine(0, 1), 0);
        Check.equal("the first rule", y.addRule(0, 1, 1), 1);
    }

    private static void typedBehind() {
        CoinbookSorter x = new CoinbookSorter();
        Typing.text(x, "ab");
        x.type('c');
        x.type(' ');
        x.type('d');
        x.addStops();
        Check.equal("abc and d", x.words(), 2);
        Check.equal("abc", Typing.noStops(x, "abc"), 1);
        Check.equal("d", Typing.noStops(x, "d"), 1);
        Check.equal("nothing else", Typing.noStops(x, "cab dabc abcd ab c"), 0);
    }

    private static void typedCharacters() {
        for (char letter = 'a'; letter <= 'z'; letter++) {
            CoinbookSorter x = new CoinbookSorter();
            Check.equal("type " + letter, x.type(letter), 1);
            Check.equal("a word " + letter, x.words(), 1);
            Check.equal("a stop word " + letter, x.addStops(), 1);
            Check.equal("just " + letter, Typing.noStops(x, "" + letter), 1);
        }
        CoinbookSorter y = new CoinbookSorter();
        Check.equal("type a space", y.type(' '), 1);
        Check.equal("a space is no word", y.words(), 0);
    }

    private static void lengthThen() {
        CoinbookSorter x = new CoinbookSorter();
        for (int length = 1; length <= 40; length++) {
            Check.equal("length", x.type(length % 3 == 1 ? ' ' : 'a'), length);
        }
        x.clearText();
        Check.equal("from the start", x.type('z'), 1);
        Check.raises("a refused one", ARGUMENT, () -> x.type('Z'));
        Check.equal("does not count", x.type(' '), 2);
    }

    private static void otherCharacters() {
        int refused = 0;
        CoinbookSorter x = new CoinbookSorter();
        for (int code = 0; code <= Character.MAX_VALUE; code++) {
            char other = (char) code;
            if (code % 500 == 0) {
                x = new CoinbookSorter();
            }
            CoinbookSorter asked = x;
            if (Check.outcome(() -> asked.type(other)).equals("throws.IllegalArgumentException")) {
                refused++;
            }
        }
        Check.equal("all but 27 characters", refused, 65536 - 27);
        char[] others = {'a' - 1, 'z' + 1, ' ' - 1, ' ' + 1, 'A', 'Z', '0', '\t', '\n', 0, 127,
            160, 228, 'a' + 256, ' ' + 256, 65535};
        for (State state : State.ALL) {
            for (char other : others) {
                state.refuses("type " + (int) other, ARGUMENT, y -> y.type(other));
            }
        }
    }

    private static void fullText() {
        for (char character : new char[] {'a', 'z', ' '}) {
            State.FULL.refuses("a 41st '" + character + "'", STATE, x -> x.type(character));
            State.BLANK.refuses("behind 40 spaces '" + character + "'", STATE,
                    x -> x.type(character));
            CoinbookSorter y = new CoinbookSorter();
            Typing.text(y, "a".repeat(39));
            Check.equal("a 40th '" + character + "'", y.type(character), 40);
        }
        CoinbookSorter z = State.FULL.make();
        z.clearText();
        Check.equal("room again", z.type('a'), 1);
    }

    private static void empties() {
        for (State state : State.ALL) {
            CoinbookSorter x = state.make();
            x.clearText();
            Check.equal("no words", x.words(), 0);
            Check.equal("no characters", x.clearText(), 0);
            Check.equal("no stop words", x.addStops(), 0);
            Check.raises("no single word", STATE, () -> x.taught(0));
            Check.equal("a character", x.type('q'), 1);
            Check.equal("a word", x.words(), 1);
        }
    }

    private static void onlyType() {
        State.Ask[] others = {CoinbookSorter::words, CoinbookSorter::addStops,
            CoinbookSorter::removeStops, x -> x.addRule(7, 1, 5), x -> x.removeRule(0),
            x -> x.addLine(5, 5), x -> x.correct(0, 7), CoinbookSorter::lines,
            x -> x.categoryOf(0), x -> x.reasonOf(0), x -> x.ruleFor(0), x -> x.weight(0, 3),
            x -> x.rankedAt(0, 0), x -> x.linesIn(3), x -> x.sumOf(3), x -> x.taught(3),
            x -> x.taughtCountedAnew(3), CoinbookSorter::wordsTaught, x -> x.steps(5),
            x -> x.setSlack(5), x -> x.alike(2), x -> x.period(2), x -> x.nextDue(2),
            x -> x.type('!'), x -> x.addRule(8, 0, 0), x -> x.addLine(0, 0), x -> x.weight(0, 7)};
        for (int i = 0; i < others.length; i++) {
            CoinbookSorter x = State.FEW.make();
            State.Ask other = others[i];
            Check.outcome(() -> other.of(x));
            Check.equal("type behind call " + i, x.type('q'), 4);
            x.addStops();
            Check.equal("the text behind call " + i, Typing.noStops(x, "gasq"), 1);
            CoinbookSorter y = State.TWO_WORDS.make();
            Check.outcome(() -> other.of(y));
            Check.equal("clearText behind call " + i, y.clearText(), 11);
        }
    }

    private static void lengthBefore() {
        String[] texts = {"", "a", " ", "   ", " a ", "a".repeat(39), "a".repeat(40),
            " ".repeat(40)};
        for (String text : texts) {
            CoinbookSorter x = new CoinbookSorter();
            Typing.text(x, text);
            Check.equal("'" + text + "'", x.clearText(), text.length());
            Check.equal("then none", x.clearText(), 0);
        }
    }

    private static void differentWords() {
        String[] texts = {"", " ", " ".repeat(40), "a", " a", "a ", "a".repeat(40), "a b", "a  a",
            " " + "a ".repeat(19) + "b", TWENTY_WORDS, TWENTY_WORDS + " ", "a aa aaa aaaa",
            State.FORTY_LETTERS};
        int[] due = {0, 0, 0, 1, 1, 1, 1, 2, 1, 2, 20, 20, 4, 1};
        for (int i = 0; i < texts.length; i++) {
            CoinbookSorter x = new CoinbookSorter();
            Typing.text(x, texts[i]);
            Check.equal("'" + texts[i] + "'", x.words(), due[i]);
            x.addStops();
            Check.equal("stop words count, '" + texts[i] + "'", x.words(), due[i]);
        }
    }

    private static void makesStops() {
        CoinbookSorter x = new CoinbookSorter();
        Typing.taughtLine(x, "gas of to", 2);
        Typing.stops(x, " to  of to ");
        Check.equal("a known word", Typing.taught(x, "of", 2), 0);
        Check.equal("all of them", Typing.taught(x, "to", 2), 0);
        Check.equal("no other", Typing.taught(x, "gas", 2), 1);
        Typing.stops(x, TWENTY_WORDS);
        Typing.taughtLine(x, "gas a t", 2);
        Check.equal("the first of twenty, in a later line", Typing.taught(x, "a", 2), 0);
        Check.equal("the last of twenty", Typing.taught(x, "t", 2), 0);
        Check.equal("one word is taught", x.wordsTaught(), 1);
    }

    private static void noneBefore() {
        String[] texts = {"", "  ", "of", "of", "of to of", "to", "to of gas oil", TWENTY_WORDS,
            TWENTY_WORDS, "a u aa"};
        int[] due = {0, 0, 1, 0, 1, 0, 2, 20, 0, 2};
        CoinbookSorter x = new CoinbookSorter();
        for (int i = 0; i < texts.length; i++) {
            Check.equal("'" + texts[i] + "'", Typing.stops(x, texts[i]), due[i]);
        }
        Typing.noStops(x, "of");
        Check.equal("one that was none for a while", Typing.stops(x, "of to"), 1);
    }

    private static void mostStops() {
        for (String text : new String[] {"dd ee", "dd a ee b", "dd dd ee", "dd ee ff"}) {
            with29Stops(text).refuses("29 and " + text, STATE, CoinbookSorter::addStops);
        }
        State.FULL.refuses("30 and 1", STATE, CoinbookSorter::addStops);
        Check.equal("29 and 1", with29Stops("dd").make().addStops(), 1);
        Check.equal("29 and 1 of 3", with29Stops("a dd z dd").make().addStops(), 1);
        Check.equal("29 and none", with29Stops("").make().addStops(), 0);
        CoinbookSorter x = State.FULL.make();
        Check.equal("30 and none of 20", Typing.stops(x, TWENTY_WORDS), 0);
        Check.equal("30 and no words", Typing.stops(x, ""), 0);
        Typing.noStops(x, "t");
        Check.equal("29 again, and 1", Typing.stops(x, "ee a ee"), 1);
        Typing.text(x, "t");
        Check.raises("30 again, and 1", STATE, x::addStops);
    }

    private static State with29Stops(String text) {
        return new State("29 stop words", 2, 100, x -> {
            Typing.stops(x, TWENTY_WORDS);
            Typing.stops(x, NINE_WORDS);
            Typing.taughtLine(x, "dd ee", 3);
            Typing.line(x, "dd a", 0, 1);
            Typing.text(x, text);
        });
    }

    private static void unmakesStops() {
        CoinbookSorter x = new CoinbookSorter();
        Typing.stops(x, "of to in");
        Typing.taughtLine(x, "of to in gas", 2);
        Check.equal("one word is taught", x.wordsTaught(), 1);
        Typing.noStops(x, " to of  to");
        Check.equal("of is none", Typing.taught(x, "of", 2), 1);
        Check.equal("to is none", Typing.taught(x, "to", 2), 1);
        Check.equal("in is still one", Typing.taught(x, "in", 2), 0);
        Typing.noStops(x, "");
        Check.equal("no words, none unmade", Typing.taught(x, "in", 2), 0);
        Typing.noStops(x, "gas");
        Check.equal("what was none is none", Typing.taught(x, "gas", 2), 1);
        CoinbookSorter full = State.FULL.make();
        Check.equal("twenty of thirty", Typing.noStops(full, TWENTY_WORDS), 20);
        Check.equal("ten are left", Typing.noStops(full, NINE_WORDS + " dd"), 10);
        Check.equal("room for twenty", Typing.stops(full, TWENTY_WORDS), 20);
    }

    private static void stopsBefore() {
        String[] texts = {"", " ", "gas", "of", "of", "to of to", "in to gas", "in"};
        int[] due = {0, 0, 0, 1, 0, 1, 1, 0};
        CoinbookSorter x = new CoinbookSorter();
        Typing.stops(x, "of to in");
        for (int i = 0; i < texts.length; i++) {
            Check.equal("'" + texts[i] + "'", Typing.noStops(x, texts[i]), due[i]);
        }
        State.NEW.keeps("no text, no stop words", 0, CoinbookSorter::removeStops);
        State.FEW.keeps("none of the text", 0, CoinbookSorter::removeStops);
        State.FULL.keeps("none of the full text", 0, CoinbookSorter::removeStops);
    }
}
