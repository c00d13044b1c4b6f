import java.util.ArrayList;
import java.util.Arrays;

/**
 * A sorter for account lines: it puts each line into a category, by what a person has corrected,
 * by rules, or by words that it has learned from corrections; it tells why, and finds payments
 * that come again and again.
 */
public final class CoinbookSorter {

    /** There is none. */
    public static final int NONE = -1;

    /** Reasons: none, by correction, by a rule, by weights. */
    public static final int NO_REASON = 0, CORRECTED = 1, RULE = 2, WEIGHTS = 3;

    private static final int CATEGORIES = 8;
    private static final int MOST_CHARACTERS = 40;
    private static final int MOST_STOPS = 30;
    private static final int MOST_RULES = 12;
    private static final int MOST_LINES = 60;
    private static final int GREATEST_DAY = 9999;
    private static final int GREATEST_AMOUNT = 99999;
    private static final int GREATEST_STEPPED = 1000000;
    private static final int GREATEST_SLACK = 10;
    private static final int FIRST_SLACK = 2;
    private static final int LOWEST_PERIOD = 2;
    private static final int GREATEST_PERIOD = 400;
    private static final int FEWEST_REPEATED = 3;

    private final StringBuilder text;
    private final WordList stops;
    private final ArrayList<Rule> ruleOrder;
    private final ArrayList<Line> allLines;
    private final Lessons lessons;
    private final Repetition repetition;
    private int slack;

    /** Creates a sorter without lines, rules and stop words; the text is empty. */
    public CoinbookSorter() {
        text = new StringBuilder();
        stops = new WordList();
        ruleOrder = new ArrayList<>();
        allLines = new ArrayList<>();
        lessons = new Lessons();
        repetition = new Repetition();
        slack = FIRST_SLACK;
    }

    // ---- the text

    /** Types a letter a to z or a space behind the text; returns its length then. */
    public int type(char character) throws IllegalArgumentException, IllegalStateException {
        if (character != ' ' && (character < 'a' || character > 'z')) {
            throw new IllegalArgumentException("neither a letter a to z nor a space");
        }
        if (text.length() >= MOST_CHARACTERS) {
            throw new IllegalStateException("the text is full");
        }
        text.append(character);
        return text.length();
    }

    /** Empties the text; returns how many characters it had. */
    public int clearText() {
        int had = text.length();
        text.setLength(0);
        return had;
    }

    /** Returns how many different words the text has. */
    public int words() {
        return textWords().size();
    }

    // ---- stop words and rules

    /** Makes all words of the text stop words; returns how many of them were none before. */
    public int addStops() throws IllegalStateException {
        WordList added = textWords();
        int fresh = added.size() - added.countIn(stops);
        if (stops.size() + fresh > MOST_STOPS) {
            throw new IllegalStateException("too many stop words");
        }
        stops.addAll(added);
        lessons.markStops(stops);
        return fresh;
    }

    /** Makes no word of the text a stop word; returns how many of them were stop words before. */
    public int removeStops() {
        WordList removed = textWords();
        int before = removed.countIn(stops);
        stops.removeAll(removed);
        lessons.markStops(stops);
        return before;
    }

    /** Adds a rule whose words are those of the text; returns how many rules there are then. */
    public int addRule(int category, int lowest, int highest)
            throws IndexOutOfBoundsException, IllegalArgumentException, IllegalStateException {
        checkCategory(category);
        if (lowest < -GREATEST_AMOUNT || lowest > GREATEST_AMOUNT
                || highest < lowest || highest > GREATEST_AMOUNT) {
            throw new IllegalArgumentException("lowest or highest is out of range");
        }
        if (ruleOrder.size() >= MOST_RULES) {
            throw new IllegalStateException("there are as many rules as there may be");
        }
        ruleOrder.add(new Rule(textWords(), category, lowest, highest));
        return ruleOrder.size();
    }

    /** Removes the rule at a place of the order; returns its category. */
    public int removeRule(int rule) throws IndexOutOfBoundsException {
        if (rule < 0 || rule >= ruleOrder.size()) {
            throw new IndexOutOfBoundsException("no such rule");
        }
        int category = ruleOrder.get(rule).category;
        ruleOrder.remove(rule);
        return category;
    }

    // ---- lines and corrections

    /** Adds a line whose description is the text; returns its number. */
    public int addLine(int day, int amount) throws IllegalArgumentException, IllegalStateException {
        if (day < 0 || day > GREATEST_DAY) {
            throw new IllegalArgumentException("day is out of range");
        }
        if (amount == 0 || amount < -GREATEST_AMOUNT || amount > GREATEST_AMOUNT) {
            throw new IllegalArgumentException("amount is out of range");
        }
        WordList description = textWords();
        if (description.size() == 0) {
            throw new IllegalStateException("the text has no word");
        }
        if (allLines.size() >= MOST_LINES) {
            throw new IllegalStateException("there are as many lines as there may be");
        }
        allLines.add(new Line(lessons.knownWords(description, stops), day, amount));
        return allLines.size() - 1;
    }

    /** Corrects a line to a category, or takes its correction back; returns what it was before. */
    public int correct(int line, int category)
            throws IndexOutOfBoundsException, IllegalArgumentException {
        Line corrected = lineAt(line);
        if (category != NONE && !isCategory(category)) {
            throw new IllegalArgumentException("neither a category nor NONE");
        }
        int before = corrected.correctedTo;
        lessons.forget(corrected, before);
        corrected.correctedTo = category;
        lessons.learn(corrected, category);
        return before;
    }

    /** Returns how many lines there are. */
    public int lines() {
        return allLines.size();
    }

    // ---- categories and reasons

    /** Returns the category of a line; NONE if it has none. */
    public int categoryOf(int line) throws IndexOutOfBoundsException {
        return categoryFor(lineAt(line));
    }

    /** Tells by what a line has its category: NO_REASON, CORRECTED, RULE or WEIGHTS. */
    public int reasonOf(int line) throws IndexOutOfBoundsException {
        return reasonFor(lineAt(line));
    }

    /** Returns the place of the first rule that holds for a line; NONE if none holds. */
    public int ruleFor(int line) throws IndexOutOfBoundsException {
        return firstRuleFor(lineAt(line));
    }

    /** Returns the weight of a category for a line; it is 0 or below. */
    public int weight(int line, int category)
            throws IndexOutOfBoundsException, IllegalStateException {
        Line weighed = lineAt(line);
        checkCategory(category);
        if (!lessons.hasWeight(category)) {
            throw new IllegalStateException("no line teaches the category");
        }
        return lessons.weightFor(weighed, category);
    }

    /** Returns the category at a place of a line's order by weights; NONE behind its end. */
    public int rankedAt(int line, int place) throws IndexOutOfBoundsException {
        Line ranked = lineAt(line);
        if (place < 0) {
            throw new IndexOutOfBoundsException("no such place");
        }
        return lessons.categoryAtPlace(ranked, place);
    }

    /** Counts the lines of a category, by whichever reason. */
    public int linesIn(int category) throws IndexOutOfBoundsException {
        checkCategory(category);
        int count = 0;
        for (int i = 0; i < allLines.size(); i++) {
            if (categoryFor(allLines.get(i)) == category) {
                count++;
            }
        }
        return count;
    }

    /** Returns the sum of the amounts of all lines of a category. */
    public int sumOf(int category) throws IndexOutOfBoundsException {
        checkCategory(category);
        int sum = 0;
        for (int i = 0; i < allLines.size(); i++) {
            Line line = allLines.get(i);
            if (categoryFor(line) == category) {
                sum += line.amount;
            }
        }
        return sum;
    }

    // ---- what was learned

    /** Returns how many lines teach a category the text's single word, from the kept counts. */
    public int taught(int category) throws IndexOutOfBoundsException, IllegalStateException {
        checkCategory(category);
        String letters = singleWord();
        return lessons.timesTaught(letters, category);
    }

    /** Returns the same, counted anew over all lines. */
    public int taughtCountedAnew(int category)
            throws IndexOutOfBoundsException, IllegalStateException {
        checkCategory(category);
        String letters = singleWord();
        if (stops.has(letters)) {
            return 0;
        }
        int count = 0;
        for (int i = 0; i < allLines.size(); i++) {
            Line line = allLines.get(i);
            if (line.correctedTo == category && line.has(letters)) {
                count++;
            }
        }
        return count;
    }

    /** Returns how many different words are taught in any category. */
    public int wordsTaught() {
        return lessons.differentWords;
    }

    /** Returns the steps of a number from 1 to 1000000. */
    public int steps(int number) throws IllegalArgumentException {
        if (number < 1 || number > GREATEST_STEPPED) {
            throw new IllegalArgumentException("number is out of range");
        }
        return stepsUpTo(number);
    }

    // ---- repetitions

    /** Sets the slack, 0 to 10 days; returns the slack before. */
    public int setSlack(int days) throws IllegalArgumentException {
        if (days < 0 || days > GREATEST_SLACK) {
            throw new IllegalArgumentException("days is out of range");
        }
        int before = slack;
        slack = days;
        return before;
    }

    /** Returns how many lines are alike with a line, this one counted. */
    public int alike(int line) throws IndexOutOfBoundsException {
        gatherAlike(line);
        return repetition.count;
    }

    /** Returns the period of the lines that are alike with a line; NONE if there is none. */
    public int period(int line) throws IndexOutOfBoundsException {
        gatherAlike(line);
        return repetition.findPeriod(slack);
    }

    /** Returns the day at which the next line of the kind of a line is due; NONE if none is. */
    public int nextDue(int line) throws IndexOutOfBoundsException {
        gatherAlike(line);
        int found = repetition.findPeriod(slack);
        return found == NONE ? NONE : repetition.greatestDay() + found;
    }

    // ---- what the calls share

    private static boolean isCategory(int category) {
        return category >= 0 && category < CATEGORIES;
    }

    private static void checkCategory(int category) {
        if (!isCategory(category)) {
            throw new IndexOutOfBoundsException("no such category");
        }
    }

    private Line lineAt(int number) {
        if (number < 0 || number >= allLines.size()) {
            throw new IndexOutOfBoundsException("no such line");
        }
        return allLines.get(number);
    }

    private WordList textWords() {
        WordList found = new WordList();
        found.addPartsOf(text.toString());
        return found;
    }

    private String singleWord() {
        WordList found = textWords();
        if (found.size() != 1) {
            throw new IllegalStateException("the text does not have just one different word");
        }
        return found.lettersAt(0);
    }

    private int reasonFor(Line line) {
        if (line.correctedTo != NONE) {
            return CORRECTED;
        }
        if (firstRuleFor(line) != NONE) {
            return RULE;
        }
        return line.hasTaughtWord() ? WEIGHTS : NO_REASON;
    }

    private int categoryFor(Line line) {
        if (line.correctedTo != NONE) {
            return line.correctedTo;
        }
        int rule = firstRuleFor(line);
        if (rule >= 0 && rule < ruleOrder.size()) {
            return ruleOrder.get(rule).category;
        }
        return line.hasTaughtWord() ? lessons.categoryAtPlace(line, 0) : NONE;
    }

    private int firstRuleFor(Line line) {
        for (int i = 0; i < ruleOrder.size(); i++) {
            if (ruleOrder.get(i).holdsFor(line)) {
                return i;
            }
        }
        return NONE;
    }

    private void gatherAlike(int number) {
        Line line = lineAt(number);
        repetition.clear();
        for (int i = 0; i < allLines.size(); i++) {
            Line other = allLines.get(i);
            // A line without telling words is alike with none, but counts itself.
            if (i == number || line.isLike(other)) {
                repetition.insert(other.day);
            }
        }
    }

    /** The document's steps of a number; a shift stands for the quotient by a power of 2. */
    private static int stepsUpTo(int number) {
        int exponent = 0;
        while (exponent < 30 && (number >> (exponent + 1)) > 0) {
            exponent++;
        }
        int power = 1 << exponent;
        return 8 * exponent + ((8 * (number - power)) >> exponent);
    }

    /** The letters of a word, as a list may hold them. */
    private static final class Word {
        final String letters;

        Word(String letters) {
            this.letters = letters;
        }
    }

    /** Different words. */
    private static final class WordList {
        private final ArrayList<Word> list;

        WordList() {
            list = new ArrayList<>();
        }

        int size() {
            return list.size();
        }

        String lettersAt(int place) {
            return place >= 0 && place < list.size() ? list.get(place).letters : "";
        }

        boolean has(String letters) {
            return placeOf(letters) != NONE;
        }

        int countIn(WordList other) {
            int count = 0;
            for (int i = 0; i < list.size(); i++) {
                if (other.has(list.get(i).letters)) {
                    count++;
                }
            }
            return count;
        }

        void addPartsOf(String spaced) {
            int start = 0;
            for (int i = 0; i <= spaced.length(); i++) {
                if (i == spaced.length() || spaced.charAt(i) == ' ') {
                    if (start < i) {
                        addNew(spaced.substring(start, i));
                    }
                    start = i + 1;
                }
            }
        }

        void addAll(WordList added) {
            for (int i = 0; i < added.size(); i++) {
                addNew(added.lettersAt(i));
            }
        }

        void removeAll(WordList removed) {
            for (int i = 0; i < removed.size(); i++) {
                int place = placeOf(removed.lettersAt(i));
                if (place >= 0 && place < list.size()) {
                    list.remove(place);
                }
            }
        }

        private void addNew(String letters) {
            if (placeOf(letters) == NONE) {
                list.add(new Word(letters));
            }
        }

        private int placeOf(String letters) {
            for (int i = 0; i < list.size(); i++) {
                if (list.get(i).letters.equals(letters)) {
                    return i;
                }
            }
            return NONE;
        }
    }

    /** A word of descriptions: all lines that have it share this one object. */
    private static final class KnownWord {
        final String letters;
        // Counts stay while the word is a stop word, for it may become none again.
        final int[] taughtIn;
        boolean stop;

        KnownWord(String letters, boolean stop) {
            this.letters = letters;
            this.stop = stop;
            taughtIn = new int[CATEGORIES];
        }

        int timesIn(int category) {
            return stop || category < 0 || category >= taughtIn.length ? 0 : taughtIn[category];
        }

        boolean isTaught() {
            for (int category = 0; category < CATEGORIES; category++) {
                if (timesIn(category) > 0) {
                    return true;
                }
            }
            return false;
        }

        void count(int category, int by) {
            if (category >= 0 && category < taughtIn.length) {
                taughtIn[category] += by;
            }
        }
    }

    private static final class Line {
        final ArrayList<KnownWord> description;
        final int day;
        final int amount;
        int correctedTo;

        Line(ArrayList<KnownWord> description, int day, int amount) {
            this.description = description;
            this.day = day;
            this.amount = amount;
            correctedTo = NONE;
        }

        boolean has(String letters) {
            for (int i = 0; i < description.size(); i++) {
                if (description.get(i).letters.equals(letters)) {
                    return true;
                }
            }
            return false;
        }

        boolean hasTaughtWord() {
            for (int i = 0; i < description.size(); i++) {
                if (description.get(i).isTaught()) {
                    return true;
                }
            }
            return false;
        }

        boolean isLike(Line other) {
            int telling = countTelling();
            return telling > 0 && (amount > 0) == (other.amount > 0)
                    && telling == other.countTelling() && telling == countTellingIn(other);
        }

        private int countTelling() {
            return countTellingIn(this);
        }

        private int countTellingIn(Line other) {
            int count = 0;
            for (int i = 0; i < description.size(); i++) {
                KnownWord word = description.get(i);
                if (!word.stop && other.holds(word)) {
                    count++;
                }
            }
            return count;
        }

        private boolean holds(KnownWord word) {
            for (int i = 0; i < description.size(); i++) {
                if (description.get(i) == word) {
                    return true;
                }
            }
            return false;
        }
    }

    private static final class Rule {
        final WordList required;
        final int category;
        final int lowest;
        final int highest;

        Rule(WordList required, int category, int lowest, int highest) {
            this.required = required;
            this.category = category;
            this.lowest = lowest;
            this.highest = highest;
        }

        boolean holdsFor(Line line) {
            if (line.amount < lowest || line.amount > highest) {
                return false;
            }
            for (int i = 0; i < required.size(); i++) {
                if (!line.has(required.lettersAt(i))) {
                    return false;
                }
            }
            return true;
        }
    }

    /** All words of descriptions, and what the lines that are corrected now teach. */
    private static final class Lessons {
        private final ArrayList<KnownWord> known;
        private final int[] linesTaught;
        private final int[] wordSums;
        // Made once and used again by each ranking.
        private final int[] weights;
        private int allTaught;
        private int differentWords;

        Lessons() {
            known = new ArrayList<>();
            linesTaught = new int[CATEGORIES];
            wordSums = new int[CATEGORIES];
            weights = new int[CATEGORIES];
        }

        ArrayList<KnownWord> knownWords(WordList letters, WordList stops) {
            ArrayList<KnownWord> found = new ArrayList<>();
            for (int i = 0; i < letters.size(); i++) {
                found.add(findOrAdd(letters.lettersAt(i), stops));
            }
            return found;
        }

        void markStops(WordList stops) {
            for (int i = 0; i < known.size(); i++) {
                KnownWord word = known.get(i);
                word.stop = stops.has(word.letters);
            }
            sumUp();
        }

        void learn(Line line, int category) {
            count(line, category, 1);
        }

        void forget(Line line, int category) {
            count(line, category, -1);
        }

        int timesTaught(String letters, int category) {
            KnownWord word = find(letters);
            return word == null ? 0 : word.timesIn(category);
        }

        boolean hasWeight(int category) {
            return isCategory(category) && linesTaught[category] > 0;
        }

        int weightFor(Line line, int category) {
            if (!isCategory(category)) {
                return 0;
            }
            int sum = stepsUpTo(linesTaught[category] + 1) - stepsUpTo(allTaught + CATEGORIES);
            int lessForWord = stepsUpTo(wordSums[category] + differentWords + 1);
            for (int i = 0; i < line.description.size(); i++) {
                KnownWord word = line.description.get(i);
                if (!word.stop) {
                    sum += stepsUpTo(word.timesIn(category) + 1) - lessForWord;
                }
            }
            return sum;
        }

        int categoryAtPlace(Line line, int place) {
            for (int category = 0; category < CATEGORIES; category++) {
                weights[category] = weightFor(line, category);
            }
            for (int category = 0; category < CATEGORIES; category++) {
                if (hasWeight(category) && countBefore(category) == place) {
                    return category;
                }
            }
            return NONE;
        }

        private int countBefore(int category) {
            int count = 0;
            for (int other = 0; other < CATEGORIES; other++) {
                if (hasWeight(other) && (weights[other] > weights[category]
                        || weights[other] == weights[category] && other < category)) {
                    count++;
                }
            }
            return count;
        }

        private void count(Line line, int category, int by) {
            if (!isCategory(category)) {
                return;
            }
            linesTaught[category] += by;
            allTaught += by;
            for (int i = 0; i < line.description.size(); i++) {
                line.description.get(i).count(category, by);
            }
            sumUp();
        }

        // Sums are made here, where words or stop words change, so that a question over all
        // lines need not go through all words for each line.
        private void sumUp() {
            Arrays.fill(wordSums, 0);
            differentWords = 0;
            for (int i = 0; i < known.size(); i++) {
                KnownWord word = known.get(i);
                for (int category = 0; category < CATEGORIES; category++) {
                    wordSums[category] += word.timesIn(category);
                }
                if (word.isTaught()) {
                    differentWords++;
                }
            }
        }

        private KnownWord findOrAdd(String letters, WordList stops) {
            KnownWord word = find(letters);
            if (word == null) {
                word = new KnownWord(letters, stops.has(letters));
                known.add(word);
            }
            return word;
        }

        private KnownWord find(String letters) {
            for (int i = 0; i < known.size(); i++) {
                KnownWord word = known.get(i);
                if (word.letters.equals(letters)) {
                    return word;
                }
            }
            return null;
        }
    }

    /** The days of lines that are alike, in rising order; filled anew for each question. */
    private static final class Repetition {
        private final int[] days;
        private int count;

        Repetition() {
            days = new int[MOST_LINES];
        }

        void clear() {
            count = 0;
        }

        // Lines of one day need no order among themselves: their gaps are 0 in any.
        void insert(int day) {
            if (count >= days.length) {
                return;
            }
            int place = count;
            while (place > 0 && place < days.length && days[place - 1] > day) {
                days[place] = days[place - 1];
                place--;
            }
            days[place] = day;
            count++;
        }

        int greatestDay() {
            return count > 0 && count <= days.length ? days[count - 1] : 0;
        }

        int findPeriod(int slack) {
            if (count < FEWEST_REPEATED) {
                return NONE;
            }
            int best = NONE;
            int most = 0;
            for (int candidate = LOWEST_PERIOD; candidate <= GREATEST_PERIOD; candidate++) {
                int fitting = countFitting(candidate, slack);
                if (fitting > most) {
                    best = candidate;
                    most = fitting;
                }
            }
            return 3 * most >= 2 * (count - 1) ? best : NONE;
        }

        private int countFitting(int candidate, int slack) {
            int fitting = 0;
            for (int i = 1; i < count && i < days.length; i++) {
                if (Math.abs(days[i] - days[i - 1] - candidate) <= slack) {
                    fitting++;
                }
            }
            return fitting;
        }
    }
}
