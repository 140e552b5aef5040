import java.util.ArrayDeque;
import java.util.ArrayList;
import java.util.HashSet;
import java.util.LinkedHashMap;
import java.util.List;
import java.util.Map;
import java.util.Random;
import java.util.Set;

/**
 * Random calls, answered by the class and by a second writing of the document that shares no idea
 * with it: texts instead of numbers, and a filter read by a stack instead of by recursion.
 */
public final class ModelTest {
    public static void main(String[] args) {
        for (int seed = 0; seed < 3000; seed++) {
            new Run(seed).go();
        }
        System.out.println("scripts right " + Run.right + ", ill " + Run.ill + "; filters right "
                + Run.filtersRight + ", ill " + Run.filtersIll + "; found " + Run.found + ", not " + Run.notFound
                + "; texts refused " + Run.refused);
        int fewest = Math.min(Math.min(Run.right, Run.ill), Math.min(Run.filtersRight, Run.filtersIll));
        fewest = Math.min(fewest, Math.min(Math.min(Run.found, Run.notFound), Run.refused));
        Checks.due("enough of each kind", true, fewest > 1000);
        Checks.end();
    }

    /** One test as the model knows it. */
    private static final class Item {
        String name = "";
        String suite = "";
        String caseName = "";
        String reason = null;
        int caseNumber;
        int suiteNumber = -1;
        int line;
        int size = 1;
        boolean sized;
        boolean fails;
        Set<String> tags = new HashSet<>();
        Map<String, List<String>> table = new LinkedHashMap<>();
        Map<String, String> given = new LinkedHashMap<>();
    }

    /** The script of the document, or the line at which it is ill. */
    private static final class ScriptModel {
        final List<String> suites = new ArrayList<>();
        final List<Item> cases = new ArrayList<>();
        final List<Item> tests = new ArrayList<>();
        private Set<String> suiteTags = new HashSet<>();
        private Item open = null;
        int ill = -1;

        ScriptModel(String script) {
            String[] lines = script.split("\n", -1);
            for (int i = 0; i < lines.length && ill < 0; i++) {
                if (!right(lines[i], i)) {
                    ill = i;
                }
            }
            if (ill >= 0) {
                suites.clear();
                cases.clear();
                return;
            }
            for (Item c : cases) {
                cross(c, new ArrayList<>(c.table.keySet()), new LinkedHashMap<>());
            }
        }

        private void cross(Item c, List<String> names, Map<String, String> given) {
            if (given.size() == names.size()) {
                Item t = new Item();
                t.suite = c.suite;
                t.suiteNumber = c.suiteNumber;
                t.caseName = c.caseName;
                t.caseNumber = c.caseNumber;
                t.reason = c.reason;
                t.line = c.line;
                t.size = c.size;
                t.fails = c.fails;
                t.tags = c.tags;
                t.given = new LinkedHashMap<>(given);
                String inside = given.toString().replace(" ", "");
                t.name = (c.suiteNumber < 0 ? "" : c.suite + ".") + c.caseName
                        + (given.isEmpty() ? "" : "[" + inside.substring(1, inside.length() - 1) + "]");
                tests.add(t);
                return;
            }
            String name = names.get(given.size());
            for (String value : c.table.get(name)) {
                given.put(name, value);
                cross(c, names, given);
                given.remove(name);
            }
        }

        private static boolean isName(String s) {
            return s.matches("[a-z][a-z0-9_]{0,11}");
        }

        private boolean right(String line, int number) {
            String trimmed = line.strip();
            String[] words = trimmed.split(" +");
            if (trimmed.isEmpty() || trimmed.startsWith("#")) {
                return true;
            }
            switch (words[0]) {
                case "suite":
                    if (words.length != 2 || !isName(words[1]) || suites.contains(words[1])) {
                        return false;
                    }
                    suites.add(words[1]);
                    suiteTags = new HashSet<>();
                    open = null;
                    return suites.size() <= 10;
                case "case":
                    return words.length == 2 && isName(words[1]) && opens(words[1], number);
                case "tag":
                    return tagged(words);
                case "with":
                    return open != null && crossed(words);
                case "size":
                    if (open == null || open.sized || words.length != 2 || !words[1].matches("[1-9]")) {
                        return false;
                    }
                    open.sized = true;
                    open.size = Integer.parseInt(words[1]);
                    return true;
                case "skip":
                    if (open == null || open.reason != null || words.length < 2) {
                        return false;
                    }
                    open.reason = trimmed.substring(4).strip();
                    return true;
                case "fails":
                    if (open == null || open.fails || words.length != 1) {
                        return false;
                    }
                    open.fails = true;
                    return true;
                default:
                    return false;
            }
        }

        private boolean opens(String name, int number) {
            open = new Item();
            open.caseName = name;
            open.line = number;
            open.caseNumber = cases.size();
            open.suiteNumber = suites.size() - 1;
            open.suite = suites.isEmpty() ? "" : suites.get(suites.size() - 1);
            open.tags = new HashSet<>(suiteTags);
            for (Item other : cases) {
                if (other.suiteNumber == open.suiteNumber && other.caseName.equals(name)) {
                    return false;
                }
            }
            cases.add(open);
            return cases.size() <= 40 && fewEnough();
        }

        private boolean tagged(String[] words) {
            if (words.length < 2 || open == null && suites.isEmpty()) {
                return false;
            }
            Set<String> tags = open == null ? suiteTags : open.tags;
            for (int i = 1; i < words.length; i++) {
                if (!isName(words[i]) || !tags.add(words[i])) {
                    return false;
                }
            }
            return tags.size() <= 8;
        }

        private boolean crossed(String[] words) {
            if (words.length < 3 || words.length > 8 || !isName(words[1]) || open.table.containsKey(words[1])) {
                return false;
            }
            List<String> values = new ArrayList<>();
            for (int i = 2; i < words.length; i++) {
                if (!words[i].matches("[a-z0-9_]{1,12}") || values.contains(words[i])) {
                    return false;
                }
                values.add(words[i]);
            }
            open.table.put(words[1], values);
            return open.table.size() <= 4 && fewEnough();
        }

        private boolean fewEnough() {
            int all = 0;
            for (Item c : cases) {
                int tests = 1;
                for (List<String> values : c.table.values()) {
                    tests *= values.size();
                }
                if (tests > 24) {
                    return false;
                }
                all += tests;
            }
            return all <= 120;
        }
    }

    /** A filter, cut into tokens one character after the other, or the place at which it is ill. */
    private static final class FilterModel {
        private static final int OPERAND = 0;
        private static final int BEHIND = 1;
        private static final int IN_TAG = 2;
        private static final int BEHIND_TAG = 3;
        private static final int WANT_NAME = 4;
        private static final int IN_NAME = 5;
        private static final int WANT_VALUE = 6;
        private static final int IN_VALUE = 7;
        private static final int WANT_DIGIT = 8;

        final List<String> tokens = new ArrayList<>();
        int ill = -1;
        private final ArrayDeque<Character> open = new ArrayDeque<>();
        private StringBuilder word = new StringBuilder();
        private int state = OPERAND;
        private int wordLength;

        FilterModel(String filter) {
            if (filter.length() > 120) {
                ill = 120;
                return;
            }
            for (int i = 0; i < filter.length() && ill < 0; i++) {
                if (!step(filter.charAt(i))) {
                    ill = i;
                }
            }
            if (ill < 0) {
                if (state == IN_TAG || state == BEHIND_TAG || state == IN_NAME || state == IN_VALUE) {
                    endAtom();
                }
                if (state != BEHIND || !open.isEmpty()) {
                    ill = filter.length();
                }
            }
        }

        private void endAtom() {
            tokens.add(word.toString());
            word = new StringBuilder();
            endNot();
            state = BEHIND;
        }

        private void endNot() {
            while (!open.isEmpty() && open.peek() == '!') {
                open.pop();
            }
        }

        private boolean step(char c) {
            boolean inWord = state == IN_TAG || state == IN_NAME || state == IN_VALUE;
            boolean letter = c >= 'a' && c <= 'z';
            boolean wordly = letter || c >= '0' && c <= '9' || c == '_';
            if (inWord && wordly) {
                word.append(c);
                wordLength++;
                return wordLength <= 12;
            }
            if (c == ' ') {
                if (state == IN_TAG) {
                    state = BEHIND_TAG;
                } else if (inWord) {
                    endAtom();
                }
                return true;
            }
            if (c == ':' && (state == IN_TAG || state == BEHIND_TAG)) {
                word.append(c);
                state = WANT_VALUE;
                return true;
            }
            if (inWord || state == BEHIND_TAG) {
                endAtom();
            }
            switch (state) {
                case OPERAND: return operand(c, letter);
                case BEHIND: return behind(c);
                case WANT_NAME: return begins(c, letter, IN_NAME);
                case WANT_VALUE: return begins(c, wordly, IN_VALUE);
                default:
                    word.append(c);
                    if (c >= '1' && c <= '9') {
                        endAtom();
                        return true;
                    }
                    return false;
            }
        }

        private boolean begins(char c, boolean may, int then) {
            word.append(c);
            wordLength = 1;
            state = then;
            return may;
        }

        private boolean operand(char c, boolean letter) {
            switch (c) {
                case '!':
                case '(':
                    open.push(c);
                    tokens.add("" + c);
                    return open.size() <= 12;
                case '@':
                case '=':
                    word.append(c);
                    state = WANT_NAME;
                    return true;
                case '<':
                    word.append(c);
                    state = WANT_DIGIT;
                    return true;
                case '?':
                case '~':
                    word.append(c);
                    endAtom();
                    return true;
                default:
                    return begins(c, letter, IN_TAG);
            }
        }

        private boolean behind(char c) {
            tokens.add("" + c);
            if (c == ')') {
                if (open.isEmpty()) {
                    return false;
                }
                open.pop();
                endNot();
                return true;
            }
            state = OPERAND;
            return c == '&' || c == '|';
        }

        boolean passes(Item t) {
            ArrayDeque<String> marks = new ArrayDeque<>();
            ArrayDeque<Boolean> answers = new ArrayDeque<>();
            for (String token : tokens) {
                switch (token) {
                    case "!":
                    case "(":
                        marks.push(token);
                        break;
                    case ")":
                        while (!marks.peek().equals("(")) {
                            apply(marks.pop(), answers);
                        }
                        marks.pop();
                        break;
                    case "&":
                    case "|":
                        while (!marks.isEmpty() && "|&!".indexOf(marks.peek()) >= "|&!".indexOf(token)) {
                            apply(marks.pop(), answers);
                        }
                        marks.push(token);
                        break;
                    default:
                        answers.push(atom(token, t));
                }
            }
            while (!marks.isEmpty()) {
                apply(marks.pop(), answers);
            }
            return answers.pop();
        }

        private static void apply(String mark, ArrayDeque<Boolean> answers) {
            boolean last = answers.pop();
            if (mark.equals("!")) {
                answers.push(!last);
            } else {
                boolean first = answers.pop();
                answers.push(mark.equals("&") ? first & last : first | last);
            }
        }

        private static boolean atom(String token, Item t) {
            String rest = token.substring(1);
            switch (token.charAt(0)) {
                case '@': return t.suiteNumber >= 0 && t.suite.equals(rest);
                case '=': return t.caseName.equals(rest);
                case '<': return t.size < Integer.parseInt(rest);
                case '?': return t.reason != null;
                case '~': return t.fails;
                default:
                    if (token.indexOf(':') < 0) {
                        return t.tags.contains(token);
                    }
                    String[] parts = token.split(":");
                    return parts[1].equals(t.given.get(parts[0]));
            }
        }
    }

    /** One object's life: the 512 calls that the document promises, and no more. */
    private static final class Run {
        static int right;
        static int ill;
        static int filtersRight;
        static int filtersIll;
        static int found;
        static int notFound;
        static int refused;

        private static final String[] NAMES = {"a", "b", "c", "d_", "e1", "abcdefghijkl", "zzzzzzzzzzzz"};
        private static final String[] VALUES = {"1", "2", "3", "_", "a", "0bcdefghijkl", "999999999999", "____________"};
        private static final String[] MARKS = {"&", "|", "!", "(", ")", " ", "@", "=", ":", "<", "?", "~", "\n", "A", "7"};
        private static final int[] EDGES = {Integer.MIN_VALUE, -2, -1, 0, 1, 9, 10, 119, 120, 121, Integer.MAX_VALUE};

        private final int seed;
        private final Random random;
        private final TestFinder x = new TestFinder();
        private int left = 512;
        private String tape = "";
        private ScriptModel script = new ScriptModel("");
        private FilterModel filter = null;

        Run(int seed) {
            this.seed = seed;
            random = new Random(seed);
        }

        void go() {
            readScript();
            while (left > 0) {
                int turn = random.nextInt(64);
                if (turn == 0 || turn < 6 && script.tests.isEmpty()) {
                    readScript();
                } else if (turn < 6) {
                    readFilter();
                } else if (turn < 9) {
                    find();
                } else if (turn < 11) {
                    text(random.nextLong());
                } else {
                    ask();
                }
            }
        }

        private void due(String call, long want, long got) {
            left--;
            Checks.due("seed " + seed + ", with " + left + " calls left, " + call, want, got);
        }

        private void due(String call, boolean want, boolean got) {
            due(call, want ? 1L : 0L, got ? 1L : 0L);
        }

        /** A word, of which the class takes all characters or none. */
        private void text(long w) {
            StringBuilder coming = new StringBuilder();
            for (int shift = 56; shift >= 0; shift -= 8) {
                char c = (char) (w >> shift & 255);
                coming.append(c == 0 ? "" : "" + c);
            }
            boolean may = coming.chars().allMatch(c -> c == 10 || c >= 32 && c <= 126) && tape.length() + coming.length() <= 1200;
            due("text(" + w + ")", may, x.text(w));
            tape += may ? coming.toString() : "";
            refused += may ? 0 : 1;
        }

        /** False if there are too few calls left for the whole text and the call behind it. */
        private boolean put(String text) {
            if (left < text.length() / 3 + 2) {
                ask();
                return false;
            }
            for (int from = 0; from < text.length();) {
                int many = Math.min(text.length() - from, 4 + random.nextInt(5));
                long w = 0;
                int spare = 8 - many;
                for (int i = 0; i < many; i++) {
                    int zeros = chance(3) ? random.nextInt(spare + 1) : 0;
                    spare -= zeros;
                    w = w << 8 * zeros << 8 | text.charAt(from + i);
                }
                text(w << 8 * random.nextInt(spare + 1));
                from += many;
            }
            return true;
        }

        private int number(int most) {
            return chance(8) ? EDGES[random.nextInt(EDGES.length)] : random.nextInt(most + 3) - 1;
        }

        private void ask() {
            int test = number(script.tests.size());
            boolean is = test >= 0 && test < script.tests.size();
            Item t = is ? script.tests.get(test) : null;
            int k;
            switch (random.nextInt(8)) {
                case 0:
                    k = number(3);
                    int[] counts = {script.suites.size(), script.cases.size(), script.tests.size()};
                    due("count(" + k + ")", k >= 0 && k < 3 ? counts[k] : -1, x.count(k));
                    break;
                case 1:
                    k = number(9);
                    due("test(" + test + ", " + k + ")", is ? told(t, k) : -1, x.test(test, k));
                    break;
                case 2:
                    k = number(is ? t.name.length() : 9);
                    due("letter(" + test + ", " + k + ")", is ? at(t.name, k) : -1, x.letter(test, k));
                    break;
                case 3:
                    k = number(is && t.reason != null ? t.reason.length() : 9);
                    due("reason(" + test + ", " + k + ")", is && t.reason != null ? at(t.reason, k) : -1, x.reason(test, k));
                    break;
                case 4:
                    boolean passed = chance(2);
                    int want = !is ? -1 : t.reason != null ? 3 : t.fails ? passed ? 4 : 1 : passed ? 0 : 2;
                    due("judge(" + test + ", " + passed + ")", want, x.judge(test, passed));
                    break;
                case 5:
                    due("passing()", passing(), x.passing());
                    break;
                default:
                    due("passes(" + test + ")", is && passes(t), x.passes(test));
            }
        }

        private static int told(Item t, int what) {
            int[] all = {t.caseNumber, t.suiteNumber, t.size, t.reason == null ? 0 : 1, t.fails ? 1 : 0,
                t.tags.size(), t.given.size(), t.name.length(), t.line};
            return what >= 0 && what < all.length ? all[what] : -1;
        }

        private static int at(String text, int k) {
            return k >= 0 && k < text.length() ? text.charAt(k) : -1;
        }

        private boolean passes(Item t) {
            return filter == null || filter.passes(t);
        }

        private int passing() {
            int passing = 0;
            for (Item t : script.tests) {
                passing += passes(t) ? 1 : 0;
            }
            return passing;
        }

        private String one(String[] of) {
            return of[random.nextInt(of.length)];
        }

        private boolean chance(int oneIn) {
            return random.nextInt(oneIn) == 0;
        }

        private String name() {
            if (chance(400)) {
                return chance(2) ? "1a" : "abcdefghijklm";
            }
            return chance(2) ? one(NAMES) : one(NAMES).substring(0, 1) + random.nextInt(100);
        }

        private String line(Set<String> used) {
            String blank = chance(3) ? "  " : " ";
            String at = chance(4) ? " " : "";
            switch (random.nextInt(12)) {
                case 0: return at + "suite" + blank + name();
                case 1: case 2: case 3: return "case" + blank + name() + at;
                case 4: return once(used, "size", "size " + (chance(100) ? 0 : 1 + random.nextInt(9)));
                case 5: return once(used, "skip", "skip" + blank + "it" + blank + "x#" + blank + name() + at);
                case 6: return once(used, "fails", "fails" + at);
                case 7: case 8: return "tag " + name() + (chance(2) ? blank + name() : "");
                case 9: case 10: return with(blank);
                default: return chance(60) ? "wrong" : chance(2) ? at : at + "#" + at + name();
            }
        }

        /** Mostly keeps from telling a thing twice, or few scripts of any length would be right. */
        private String once(Set<String> used, String what, String line) {
            return used.add(what) || chance(50) ? line : "";
        }

        private String with(String blank) {
            StringBuilder line = new StringBuilder("with " + name());
            int values = chance(100) ? 7 : 1 + random.nextInt(chance(4) ? 6 : 3);
            List<String> left = new ArrayList<>(List.of(VALUES));
            for (int i = 0; i < values; i++) {
                int at = random.nextInt(left.size());
                line.append(blank).append(chance(300) ? one(VALUES) : left.remove(at));
            }
            return line.toString();
        }

        private String randomScript() {
            StringBuilder text = new StringBuilder(chance(20) ? "" : "case a\n");
            int lines = random.nextInt(chance(3) ? 60 : 14);
            Set<String> used = new HashSet<>();
            for (int i = 0; i < lines; i++) {
                String line = line(used);
                boolean breaks = new ScriptModel(text + line).ill >= 0;
                if (breaks && !chance(10)) {
                    continue;
                }
                if (line.contains("case")) {
                    used.clear();
                }
                if (text.length() + line.length() < 1200) {
                    text.append(line).append(i == lines - 1 ? "" : "\n");
                }
            }
            return text.toString();
        }

        private void readScript() {
            if (!put(randomScript())) {
                return;
            }
            script = new ScriptModel(tape);
            filter = null;
            right += script.ill < 0 ? 1 : 0;
            ill += script.ill < 0 ? 0 : 1;
            due("script() of\n" + tape + "\n", script.ill, x.script());
            tape = "";
        }

        private String atom() {
            String blank = chance(6) ? " " : "";
            switch (random.nextInt(8)) {
                case 0: return "?";
                case 1: return "~";
                case 2: return "<" + blank + (1 + random.nextInt(9));
                case 3: return "@" + blank + name();
                case 4: return "=" + blank + name();
                case 5: case 6: return name() + blank + ":" + blank + one(VALUES);
                default: return name();
            }
        }

        private String either(int depth) {
            if (depth == 0 || chance(4)) {
                return atom();
            }
            String blank = chance(4) ? " " : "";
            switch (random.nextInt(4)) {
                case 0: return "!" + blank + either(depth - 1);
                case 1: return "(" + blank + either(depth - 1) + blank + ")";
                case 2: return either(depth - 1) + blank + "&" + blank + either(depth - 1);
                default: return either(depth - 1) + blank + "|" + blank + either(depth - 1);
            }
        }

        private String randomFilter() {
            StringBuilder text = new StringBuilder(either(random.nextInt(5)));
            if (chance(6)) {
                for (int i = random.nextInt(14); i > 0; i--) {
                    boolean not = chance(2);
                    text.insert(0, not ? "!" : "(").append(not ? "" : ")");
                }
            }
            for (int i = chance(2) ? 0 : random.nextInt(3); i > 0; i--) {
                int at = random.nextInt(text.length() + 1);
                if (chance(3) && at < text.length()) {
                    text.deleteCharAt(at);
                } else {
                    text.insert(at, one(MARKS));
                }
            }
            return text.toString();
        }

        private void readFilter() {
            if (!put(randomFilter())) {
                return;
            }
            FilterModel model = new FilterModel(tape);
            filter = model.ill < 0 ? model : filter;
            filtersRight += model.ill < 0 ? 1 : 0;
            filtersIll += model.ill < 0 ? 0 : 1;
            due("filter() of '" + tape + "'", model.ill, x.filter());
            tape = "";
        }

        private void find() {
            StringBuilder name = new StringBuilder(name());
            if (!script.tests.isEmpty()) {
                name = new StringBuilder(script.tests.get(random.nextInt(script.tests.size())).name);
            }
            if (chance(3)) {
                name.deleteCharAt(random.nextInt(name.length()));
            }
            if (!put(name.toString())) {
                return;
            }
            int want = -1;
            for (int i = 0; i < script.tests.size(); i++) {
                want = script.tests.get(i).name.equals(tape) ? i : want;
            }
            found += want < 0 ? 0 : 1;
            notFound += want < 0 ? 1 : 0;
            due("find() of '" + tape + "'", want, x.find());
            tape = "";
        }
    }
}
