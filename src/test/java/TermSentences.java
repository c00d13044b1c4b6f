/** The sentences of "What it is" and of "Terms": on calls, texts, lines and categories. */
final class TermSentences {
    private TermSentences() {
    }

    static void tell() {
        Doc.whatItIs("A sorter for account lines: it puts each line into a category, by what a "
                + "person has corrected, by rules, or by words that it has learned from "
                + "corrections; it tells why, and finds payments that come again and again.",
                TermSentences::sorts);
        Doc.whatItIs("An object is used for at most 512 calls after it has been made; what later "
                + "calls answer is free.", TermSentences::theLastCallAnswers);
        Doc.term("The constants: `NONE = -1`: There is none.",
                () -> Check.equal("NONE", CoinbookSorter.NONE, -1));
        Doc.term("`NO_REASON = 0, CORRECTED = 1, RULE = 2, WEIGHTS = 3`: Reasons: none, by "
                + "correction, by a rule, by weights.", TermSentences::reasons);
        Doc.term("Texts are typed letter by letter into one buffer and used from there: as the "
                + "description of a line, as the words of a rule, or as a single word.",
                TermSentences::oneBuffer);
        Doc.term("Lines, rules and corrections are told one by one; categories and reasons are "
                + "found anew for each question, from all that is there then.",
                TermSentences::foundAnew);
        Doc.term("A call that throws an exception changes nothing; if several exceptions apply, "
                + "the one that its throws clause names first is thrown.",
                TermSentences::theFirstException);
        Doc.term("The text has at most 40 characters, letters a to z and spaces.",
                TermSentences::mostCharacters);
        Doc.term("Its words are its longest parts without spaces.", TermSentences::longestParts);
        Doc.term("The words of a text are told apart by their letters; a word that a text has "
                + "twice counts once.", TermSentences::toldApart);
        Doc.term("Lines are numbered from 0, up to 60.", TermSentences::numberedLines);
        Doc.term("A line has a description, a day from 0 to 9999, and an amount from -99999 to "
                + "99999, but not 0.", TermSentences::whatALineHas);
        Doc.term("Categories are numbered 0 to 7.", TermSentences::numberedCategories);
        Doc.term("Some words are stop words; the telling words of a line are the words of its "
                + "description that are no stop words now.", TermSentences::tellingWords);
    }

    private static void sorts() {
        CoinbookSorter x = new CoinbookSorter();
        Typing.line(x, "gas bill", 3, -45);
        Typing.line(x, "gas", 40, -47);
        Typing.lines(x, "rent", -900, 0, 30, 60);
        x.correct(0, 3);
        Typing.rule(x, "rent", 5, -99999, -1);
        expect(x, 0, 3, CoinbookSorter.CORRECTED);
        expect(x, 1, 3, CoinbookSorter.WEIGHTS);
        expect(x, 2, 5, CoinbookSorter.RULE);
        Check.equal("the next rent", x.nextDue(2), 88);
    }

    private static void expect(CoinbookSorter x, int line, int category, int reason) {
        Check.equal("category of " + line, x.categoryOf(line), category);
        Check.equal("reason of " + line, x.reasonOf(line), reason);
    }

    private static void theLastCallAnswers() {
        CoinbookSorter lines = new CoinbookSorter();
        lines.type('a');
        for (int call = 2; call <= 61; call++) {
            lines.addLine(call, call);
        }
        lines.correct(0, 7);
        for (int call = 63; call <= 512; call++) {
            Check.equal("call " + call, lines.linesIn(7), 60);
        }
        CoinbookSorter corrections = new CoinbookSorter();
        corrections.type('a');
        corrections.addLine(1, 1);
        for (int call = 3; call <= 510; call++) {
            corrections.correct(0, call % 8);
        }
        Check.equal("call 511", corrections.taught(6), 1);
        Check.equal("call 512", corrections.taughtCountedAnew(6), 1);
        CoinbookSorter refusals = new CoinbookSorter();
        for (int call = 1; call <= 511; call++) {
            Check.raises("call " + call, IllegalArgumentException.class, () -> refusals.type('A'));
        }
        Check.equal("call 512 behind refused ones", refusals.type('a'), 1);
    }

    private static void reasons() {
        Check.equal("none", CoinbookSorter.NO_REASON, 0);
        Check.equal("by correction", CoinbookSorter.CORRECTED, 1);
        Check.equal("by a rule", CoinbookSorter.RULE, 2);
        Check.equal("by weights", CoinbookSorter.WEIGHTS, 3);
    }

    private static void oneBuffer() {
        CoinbookSorter x = new CoinbookSorter();
        Check.equal("a letter", x.type('g'), 1);
        Check.equal("and a letter", x.type('o'), 2);
        Check.equal("a line", x.addLine(1, 5), 0);
        Check.equal("a rule", x.addRule(2, 5, 5), 1);
        x.correct(0, 4);
        Check.equal("the rule has the line's word", x.ruleFor(0), 0);
        Check.equal("a single word", x.taught(4), 1);
        Check.equal("a stop word", x.addStops(), 1);
        x.clearText();
        Check.equal("the line keeps its description", x.ruleFor(0), 0);
        Typing.line(x, "og", 1, 5);
        Check.equal("the rule keeps its word", x.ruleFor(1), CoinbookSorter.NONE);
    }

    private static void foundAnew() {
        CoinbookSorter x = new CoinbookSorter();
        Typing.line(x, "gas", 0, 5);
        expect(x, 0, CoinbookSorter.NONE, CoinbookSorter.NO_REASON);
        Typing.taughtLine(x, "gas oil", 6);
        expect(x, 0, 6, CoinbookSorter.WEIGHTS);
        Typing.rule(x, "", 2, 5, 5);
        expect(x, 0, 2, CoinbookSorter.RULE);
        x.removeRule(0);
        expect(x, 0, 6, CoinbookSorter.WEIGHTS);
        Typing.stops(x, "gas");
        expect(x, 0, CoinbookSorter.NONE, CoinbookSorter.NO_REASON);
        Typing.noStops(x, "gas");
        expect(x, 0, 6, CoinbookSorter.WEIGHTS);
        x.correct(1, 1);
        expect(x, 0, 1, CoinbookSorter.WEIGHTS);
        x.correct(1, CoinbookSorter.NONE);
        expect(x, 0, CoinbookSorter.NONE, CoinbookSorter.NO_REASON);
    }

    private static void theFirstException() {
        Class<IndexOutOfBoundsException> bounds = IndexOutOfBoundsException.class;
        Class<IllegalArgumentException> argument = IllegalArgumentException.class;
        State.FULL.refuses("another character, a full text", argument, x -> x.type('A'));
        State.BLANK.refuses("another character, 40 spaces", argument, x -> x.type('-'));
        State.FULL.refuses("no category, amounts, 12 rules", bounds, x -> x.addRule(8, 1, 0));
        State.FULL.refuses("no category, 12 rules", bounds, x -> x.addRule(-1, 0, 0));
        State.FULL.refuses("amounts, 12 rules", argument, x -> x.addRule(0, 0, 100000));
        State.FEW.refuses("no category, amounts", bounds, x -> x.addRule(8, 1, 0));
        State.NEW.refuses("day, no word", argument, x -> x.addLine(-1, 1));
        State.BLANK.refuses("amount, no word", argument, x -> x.addLine(0, 0));
        State.FULL.refuses("day, 60 lines", argument, x -> x.addLine(10000, 1));
        State.FULL.refuses("amount, 60 lines", argument, x -> x.addLine(0, 100000));
        State.FULL.refuses("day, amount, 60 lines", argument, x -> x.addLine(-1, 0));
        State.NEW.refuses("no line, no category", bounds, x -> x.correct(0, 8));
        State.FULL.refuses("no line 60, no category", bounds, x -> x.correct(60, -2));
        State.FEW.refuses("no line, none teaches", bounds, x -> x.weight(7, 7));
        State.FEW.refuses("no category, none teaches", bounds, x -> x.weight(0, 8));
        State.NEW.refuses("no line at all, none teaches", bounds, x -> x.weight(0, 0));
        for (State state : new State[] {State.NEW, State.TWO_WORDS, State.BLANK}) {
            state.refuses("no category, no single word", bounds, x -> x.taught(8));
            state.refuses("none anew, no single word", bounds, x -> x.taughtCountedAnew(-1));
        }
    }

    private static void mostCharacters() {
        CoinbookSorter x = new CoinbookSorter();
        String all = "abcdefghijklm nopqrstuvwxyz";
        Typing.text(x, all + " " + all.substring(0, 11));
        Check.equal("39 characters", x.clearText(), 39);
        Typing.text(x, all + " " + all.substring(0, 12));
        Check.raises("the 41st, a letter", IllegalStateException.class, () -> x.type('a'));
        Check.raises("the 41st, a space", IllegalStateException.class, () -> x.type(' '));
        Check.equal("three words", x.words(), 3);
        Check.equal("40 characters", x.clearText(), 40);
    }

    private static void longestParts() {
        CoinbookSorter x = new CoinbookSorter();
        Typing.taughtLine(x, "  ab   c de ", 0);
        String[] words = {"ab", "c", "de", "a", "b", "d", "e", "abc", "cde", "abcde"};
        int[] due = {1, 1, 1, 0, 0, 0, 0, 0, 0, 0};
        for (int i = 0; i < words.length; i++) {
            Check.equal(words[i], Typing.taught(x, words[i], 0), due[i]);
        }
        Check.equal("three words are taught", x.wordsTaught(), 3);
        Typing.text(x, "   ");
        Check.equal("spaces alone are no word", x.words(), 0);
        Typing.text(x, State.FORTY_LETTERS);
        Check.equal("40 letters are one", x.words(), 1);
    }

    private static void toldApart() {
        String[] texts = {"ab ba", "a aa", "aa a", "a a", "ab c ab c ab", "abc abd", "abc zbc",
            "abcdefghijklmnopqrs abcdefghijklmnopqrst", "abcdefghijklmnopqrs abcdefghijklmnopqrs"};
        int[] due = {2, 2, 2, 1, 2, 2, 2, 2, 1};
        for (int i = 0; i < texts.length; i++) {
            CoinbookSorter x = new CoinbookSorter();
            Typing.text(x, texts[i]);
            Check.equal("words of " + texts[i], x.words(), due[i]);
            Check.equal("stop words of " + texts[i], x.addStops(), due[i]);
        }
        CoinbookSorter y = new CoinbookSorter();
        Typing.line(y, State.FORTY_LETTERS, 0, 1);
        Typing.line(y, State.FORTY_LETTERS.substring(0, 39) + "z", 0, 1);
        Check.equal("only the last of 40 letters is another", y.alike(0), 1);
        Typing.taughtLine(y, "gas gas", 3);
        Check.equal("a line teaches it once", Typing.taught(y, "gas", 3), 1);
        Typing.rule(y, "gas gas gas", 6, 1, 1);
        Check.equal("a rule needs it once", y.ruleFor(2), 0);
        Typing.line(y, "gas", 0, 1);
        Check.equal("once or twice is alike", y.alike(3), 2);
    }

    private static void numberedLines() {
        CoinbookSorter x = new CoinbookSorter();
        x.type('a');
        for (int line = 0; line < 60; line++) {
            Check.raises("no line " + line + " yet", IndexOutOfBoundsException.class,
                    () -> x.ruleFor(x.lines()));
            Check.equal("line " + line, x.addLine(line, 1), line);
            Check.equal("it is there", x.alike(line), line + 1);
        }
        State.FULL.refuses("a 61st line", IllegalStateException.class, y -> y.addLine(1, 1));
    }

    private static void whatALineHas() {
        CoinbookSorter x = new CoinbookSorter();
        Typing.lines(x, "gas", -99999, 0, 9999, 30, 60);
        Typing.lines(x, "gas", 99999, 9999, 9969, 9939);
        Typing.lines(x, "oil", 1, 5);
        Typing.lines(x, "oil", -1, 5);
        Check.equal("day 0 is there, and 9999", x.nextDue(0), 9999 + 28);
        Check.equal("day 9999", x.nextDue(4), 9999 + 28);
        Check.equal("its description", x.alike(7), 1);
        for (int line = 0; line < 9; line++) {
            x.correct(line, line < 4 ? 0 : line < 7 ? 1 : line - 5);
        }
        int[] sums = {-399996, 299997, 1, -1};
        for (int category = 0; category < sums.length; category++) {
            Check.equal("amounts of " + category, x.sumOf(category), sums[category]);
        }
        Class<IllegalArgumentException> argument = IllegalArgumentException.class;
        State.FEW.refuses("day -1", argument, y -> y.addLine(-1, 1));
        State.FEW.refuses("day 10000", argument, y -> y.addLine(10000, 1));
        State.FEW.refuses("amount 0", argument, y -> y.addLine(0, 0));
        State.FEW.refuses("amount -100000", argument, y -> y.addLine(0, -100000));
        State.FEW.refuses("amount 100000", argument, y -> y.addLine(0, 100000));
    }

    private static void numberedCategories() {
        CoinbookSorter x = new CoinbookSorter();
        Typing.line(x, "gas", 0, 1);
        for (int category = 0; category < 8; category++) {
            x.correct(0, category);
            Check.equal("corrected to " + category, x.categoryOf(0), category);
            Check.equal("one line in " + category, x.linesIn(category), 1);
            Check.equal("it is the best one", x.rankedAt(0, 0), category);
        }
        Check.raises("no category 8", IndexOutOfBoundsException.class, () -> x.linesIn(8));
        Check.raises("no category -1", IndexOutOfBoundsException.class, () -> x.linesIn(-1));
    }

    private static void tellingWords() {
        CoinbookSorter x = new CoinbookSorter();
        Typing.taughtLine(x, "gas of", 2);
        Typing.line(x, "gas", 0, 1);
        Check.equal("two telling words", x.wordsTaught(), 2);
        Check.equal("other telling words", x.alike(0), 1);
        Typing.stops(x, "of");
        Check.equal("one telling word", x.wordsTaught(), 1);
        Check.equal("the same telling words", x.alike(0), 2);
        Typing.stops(x, "gas");
        Check.equal("no telling word", x.wordsTaught(), 0);
        Check.equal("alike with none", x.alike(0), 1);
        Typing.noStops(x, "gas of");
        Check.equal("two again", x.wordsTaught(), 2);
        Check.equal("others again", x.alike(0), 1);
    }
}
