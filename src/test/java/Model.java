import java.util.ArrayList;
import java.util.Comparator;
import java.util.HashSet;
import java.util.List;
import java.util.Set;
import java.util.TreeSet;

/** The document's words, read as literally as can be and counted anew at every call. */
final class Model {
    private static final class Line {
        int number;
        Set<String> description;
        int day;
        int amount;
        int corrected = -1;
    }

    private static final class Rule {
        Set<String> required;
        int category;
        int lowest;
        int highest;
    }

    private String text = "";
    private final Set<String> stops = new TreeSet<>();
    private final List<Rule> rules = new ArrayList<>();
    private final List<Line> all = new ArrayList<>();
    private int slack = 2;

    int type(char character) {
        if ("abcdefghijklmnopqrstuvwxyz ".indexOf(character) < 0) {
            throw new IllegalArgumentException();
        }
        if (text.length() == 40) {
            throw new IllegalStateException();
        }
        text += character;
        return text.length();
    }

    int clearText() {
        int had = text.length();
        text = "";
        return had;
    }

    int words() {
        return wordsOfText().size();
    }

    int addStops() {
        Set<String> then = new TreeSet<>(stops);
        then.addAll(wordsOfText());
        if (then.size() > 30) {
            throw new IllegalStateException();
        }
        int fresh = then.size() - stops.size();
        stops.addAll(then);
        return fresh;
    }

    int removeStops() {
        int before = stops.size();
        stops.removeAll(wordsOfText());
        return before - stops.size();
    }

    int addRule(int category, int lowest, int highest) {
        needCategory(category);
        if (lowest < -99999 || lowest > 99999 || highest < lowest || highest > 99999) {
            throw new IllegalArgumentException();
        }
        if (rules.size() == 12) {
            throw new IllegalStateException();
        }
        Rule rule = new Rule();
        rule.required = wordsOfText();
        rule.category = category;
        rule.lowest = lowest;
        rule.highest = highest;
        rules.add(rule);
        return rules.size();
    }

    int removeRule(int rule) {
        need(rule >= 0 && rule < rules.size());
        return rules.remove(rule).category;
    }

    int addLine(int day, int amount) {
        if (day < 0 || day > 9999 || amount < -99999 || amount > 99999 || amount == 0) {
            throw new IllegalArgumentException();
        }
        if (wordsOfText().isEmpty() || all.size() == 60) {
            throw new IllegalStateException();
        }
        Line line = new Line();
        line.number = all.size();
        line.description = wordsOfText();
        line.day = day;
        line.amount = amount;
        all.add(line);
        return line.number;
    }

    int correct(int number, int category) {
        Line line = needLine(number);
        if (category < -1 || category > 7) {
            throw new IllegalArgumentException();
        }
        int before = line.corrected;
        line.corrected = category;
        return before;
    }

    int lines() {
        return all.size();
    }

    int categoryOf(int number) {
        Line line = needLine(number);
        if (line.corrected != -1) {
            return line.corrected;
        }
        if (ruleFor(number) != -1) {
            return rules.get(ruleFor(number)).category;
        }
        return hasBest(line) ? rankedAt(number, 0) : -1;
    }

    int reasonOf(int number) {
        Line line = needLine(number);
        if (line.corrected != -1) {
            return 1;
        }
        if (ruleFor(number) != -1) {
            return 2;
        }
        return hasBest(line) ? 3 : 0;
    }

    int ruleFor(int number) {
        Line line = needLine(number);
        for (int place = 0; place < rules.size(); place++) {
            Rule rule = rules.get(place);
            if (line.description.containsAll(rule.required) && rule.lowest <= line.amount
                    && line.amount <= rule.highest) {
                return place;
            }
        }
        return -1;
    }

    int weight(int number, int category) {
        Line line = needLine(number);
        needCategory(category);
        if (teaching(category) == 0) {
            throw new IllegalStateException();
        }
        return weightOf(line, category);
    }

    int rankedAt(int number, int place) {
        Line line = needLine(number);
        need(place >= 0);
        List<Integer> order = new ArrayList<>();
        for (int category = 0; category < 8; category++) {
            if (teaching(category) > 0) {
                order.add(category);
            }
        }
        order.sort(Comparator.<Integer>comparingInt(each -> -weightOf(line, each))
                .thenComparingInt(each -> each));
        return place < order.size() ? order.get(place) : -1;
    }

    int linesIn(int category) {
        needCategory(category);
        return (int) all.stream().filter(line -> categoryOf(line.number) == category).count();
    }

    int sumOf(int category) {
        needCategory(category);
        return all.stream().filter(line -> categoryOf(line.number) == category)
                .mapToInt(line -> line.amount).sum();
    }

    int taught(int category) {
        needCategory(category);
        if (wordsOfText().size() != 1) {
            throw new IllegalStateException();
        }
        return teachingWord(category, wordsOfText().iterator().next());
    }

    int taughtCountedAnew(int category) {
        return taught(category);
    }

    int wordsTaught() {
        Set<String> different = new HashSet<>();
        for (Line line : all) {
            if (line.corrected != -1) {
                different.addAll(telling(line));
            }
        }
        return different.size();
    }

    int steps(int number) {
        if (number < 1 || number > 1000000) {
            throw new IllegalArgumentException();
        }
        int m = Integer.highestOneBit(number);
        return 8 * Integer.numberOfTrailingZeros(m) + 8 * (number - m) / m;
    }

    int setSlack(int days) {
        if (days < 0 || days > 10) {
            throw new IllegalArgumentException();
        }
        int before = slack;
        slack = days;
        return before;
    }

    int alike(int number) {
        return kind(needLine(number)).size();
    }

    int period(int number) {
        List<Line> kind = kind(needLine(number));
        if (kind.size() < 3) {
            return -1;
        }
        int best = -1;
        int most = -1;
        for (int candidate = 400; candidate >= 2; candidate--) {
            int fit = 0;
            for (int i = 0; i + 1 < kind.size(); i++) {
                int gap = kind.get(i + 1).day - kind.get(i).day;
                fit += Math.abs(gap - candidate) <= slack ? 1 : 0;
            }
            if (fit >= most) {
                most = fit;
                best = candidate;
            }
        }
        return most * 3 >= (kind.size() - 1) * 2 ? best : -1;
    }

    int nextDue(int number) {
        int found = period(number);
        if (found == -1) {
            return -1;
        }
        List<Line> kind = kind(needLine(number));
        return kind.get(kind.size() - 1).day + found;
    }

    private Set<String> wordsOfText() {
        Set<String> found = new TreeSet<>(List.of(text.split(" ")));
        found.remove("");
        return found;
    }

    private Set<String> telling(Line line) {
        Set<String> left = new TreeSet<>(line.description);
        left.removeAll(stops);
        return left;
    }

    private int teaching(int category) {
        return (int) all.stream().filter(line -> line.corrected == category).count();
    }

    private int teachingWord(int category, String word) {
        return (int) all.stream().filter(line -> line.corrected == category
                && telling(line).contains(word)).count();
    }

    private int weightOf(Line line, int category) {
        int lessons = 0;
        int wordLessons = 0;
        for (Line each : all) {
            lessons += each.corrected != -1 ? 1 : 0;
            wordLessons += each.corrected == category ? telling(each).size() : 0;
        }
        int sum = steps(teaching(category) + 1) - steps(lessons + 8);
        for (String word : telling(line)) {
            sum += steps(teachingWord(category, word) + 1)
                    - steps(wordLessons + wordsTaught() + 1);
        }
        return sum;
    }

    private boolean hasBest(Line line) {
        return telling(line).stream().anyMatch(word -> {
            for (int category = 0; category < 8; category++) {
                if (teachingWord(category, word) > 0) {
                    return true;
                }
            }
            return false;
        });
    }

    private List<Line> kind(Line line) {
        List<Line> found = new ArrayList<>();
        for (Line each : all) {
            boolean sameSign = (each.amount > 0) == (line.amount > 0);
            if (each == line || sameSign && !telling(line).isEmpty()
                    && telling(each).equals(telling(line))) {
                found.add(each);
            }
        }
        found.sort(Comparator.<Line>comparingInt(each -> each.day)
                .thenComparingInt(each -> each.number));
        return found;
    }

    private static void need(boolean there) {
        if (!there) {
            throw new IndexOutOfBoundsException();
        }
    }

    private static void needCategory(int category) {
        need(category >= 0 && category < 8);
    }

    private Line needLine(int number) {
        need(number >= 0 && number < all.size());
        return all.get(number);
    }
}
