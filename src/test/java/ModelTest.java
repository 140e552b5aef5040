import java.util.ArrayDeque;
import java.util.ArrayList;
import java.util.HashSet;
import java.util.LinkedHashMap;
import java.util.List;
import java.util.Map;
import java.util.Random;
import java.util.Set;

/**
 * Random calls, answered by the class and by a second writing of the document that shares no idea
 * with it: texts instead of numbers, and a filter read by a stack instead of by recursion.
 */
public final class ModelTest {
    public static void main(String[] args) {
        for (int seed = 0; seed < 3000; seed++) {
            new Run(seed).go();
        }
        System.out.println("scripts right " + Run.right + ", ill " + Run.ill + "; filters right "
                + Run.filtersRight + ", ill " + Run.filtersIll);
        Checks.due("enough of each kind", true,
                Math.min(Math.min(Run.right, Run.ill), Math.min(Run.filtersRight, Run.filtersIll)) > 1000);
        Checks.end();
    }

    /** One test as the model knows it. */
    private static final class Item {
        String name = "";
        String suite = "";
        String caseName = "";
        String reason = null;
        int caseNumber;
        int suiteNumber = -1;
        int line;
        int size = 1;
        boolean sized;
        boolean fails;
        Set<String> tags = new HashSet<>();
        Map<String, List<String>> table = new LinkedHashMap<>();
        Map<String, String> given = new LinkedHashMap<>();
    }

    /** The script of the document, or the line at which it is ill. */
    private static final class ScriptModel {
        final List<String> suites = new ArrayList<>();
        final List<Item> cases = new ArrayList<>();
        final List<Item> tests = new ArrayList<>();
        private Set<String> suiteTags = new HashSet<>();
        private Item open = null;
        int ill = -1;

        ScriptModel(String script) {
            String[] lines = script.split("\n", -1);
            for (int i = 0; i < lines.length && ill < 0; i++) {
                if (!right(lines[i], i)) {
                    ill = i;
                }
            }
            if (ill >= 0) {
                suites.clear();
                cases.clear();
                return;
            }
            for (Item c : cases) {
                cross(c, new ArrayList<>(c.table.keySet()), new LinkedHashMap<>());
            }
        }

        private void cross(Item c, List<String> names, Map<String, String> given) {
            if (given.size() == names.size()) {
                Item t = new Item();
                t.suite = c.suite;
                t.suiteNumber = c.suiteNumber;
                t.caseName = c.caseName;
                t.caseNumber = c.caseNumber;
                t.reason = c.reason;
                t.line = c.line;
                t.size = c.size;
                t.fails = c.fails;
                t.tags = c.tags;
                t.given = new LinkedHashMap<>(given);
                String inside = given.toString().replace(" ", "");
                t.name = (c.suiteNumber < 0 ? "" : c.suite + ".") + c.caseName
                        + (given.isEmpty() ? "" : "[" + inside.substring(1, inside.length() - 1) + "]");
                tests.add(t);
                return;
            }
            String name = names.get(given.size());
            for (String value : c.table.get(name)) {
                given.put(name, value);
                cross(c, names, given);
                given.remove(name);
            }
        }

        private static boolean isName(String s) {
            return s.matches("[a-z][a-z0-9_]{0,11}");
        }

        private boolean right(String line, int number) {
            String trimmed = line.strip();
            String[] words = trimmed.split(" +");
            if (trimmed.isEmpty() || trimmed.startsWith("#")) {
                return true;
            }
            switch (words[0]) {
                case "suite":
                    if (words.length != 2 || !isName(words[1]) || suites.contains(words[1])) {
                        return false;
                    }
                    suites.add(words[1]);
                    suiteTags = new HashSet<>();
                    open = null;
                    return suites.size() <= 10;
                case "case":
                    return words.length == 2 && isName(words[1]) && opens(words[1], number);
                case "tag":
                    return tagged(words);
                case "with":
                    return open != null && crossed(words);
                case "size":
                    if (open == null || open.sized || words.length != 2 || !words[1].matches("[1-9]")) {
                        return false;
                    }
                    open.sized = true;
                    open.size = Integer.parseInt(words[1]);
                    return true;
                case "skip":
                    if (open == null || open.reason != null || words.length < 2) {
                        return false;
                    }
                    open.reason = trimmed.substring(4).strip();
                    return true;
                case "fails":
                    if (open == null || open.fails || words.length != 1) {
                        return false;
                    }
                    open.fails = true;
                    return true;
                default:
                    return false;
            }
        }

        private boolean opens(String name, int number) {
            open = new Item();
            open.caseName = name;
            open.line = number;
            open.caseNumber = cases.size();
            open.suiteNumber = suites.size() - 1;
            open.suite = suites.isEmpty() ? "" : suites.get(suites.size() - 1);
            open.tags = new HashSet<>(suiteTags);
            for (Item other : cases) {
                if (other.suiteNumber == open.suiteNumber && other.caseName.equals(name)) {
                    return false;
                }
            }
            cases.add(open);
            return cases.size() <= 40 && fewEnough();
        }

        private boolean tagged(String[] words) {
            if (words.length < 2 || open == null && suites.isEmpty()) {
                return false;
            }
            Set<String> tags = open == null ? suiteTags : open.tags;
            for (int i = 1; i < words.length; i++) {
                if (!isName(words[i]) || !tags.add(words[i])) {
                    return false;
                }
            }
            return tags.size() <= 8;
        }

        private boolean crossed(String[] words) {
            if (words.length < 3 || words.length > 8 || !isName(words[1]) || open.table.containsKey(words[1])) {
                return false;
            }
            List<String> values = new ArrayList<>();
            for (int i = 2; i < words.length; i++) {
                if (!words[i].matches("[a-z0-9_]{1,12}") || values.contains(words[i])) {
                    return false;
                }
                values.add(words[i]);
            }
            open.table.put(words[1], values);
            return open.table.size() <= 4 && fewEnough();
        }

        private boolean fewEnough() {
            int all = 0;
            for (Item c : cases) {
                int tests = 1;
                for (List<String> values : c.table.values()) {
                    tests *= values.size();
                }
                if (tests > 24) {
                    return false;
                }
                all += tests;
            }
            return all <= 120;
        }
    }

    /** A filter, cut into tokens one character after the other, or the place at which it is ill. */
    private static final class FilterModel {
        private static final int OPERAND = 0;
        private static final int BEHIND = 1;
        private static final int IN_TAG = 2;
        private static final int BEHIND_TAG = 3;
        private static final int WANT_NAME = 4;
        private static final int IN_NAME = 5;
        private static final int WANT_VALUE = 6;
        private static final int IN_VALUE = 7;
        private static final int WANT_DIGIT = 8;

        final List<String> tokens = new ArrayList<>();
        int ill = -1;
        private final ArrayDeque<Character> open = new ArrayDeque<>();
        private StringBuilder word = new StringBuilder();
        private int state = OPERAND;
        private int wordLength;

        FilterModel(String filter) {
            if (filter.length() > 120) {
                ill = 120;
                return;
            }
            for (int i = 0; i < filter.length() && ill < 0; i++) {
                if (!step(filter.charAt(i))) {
                    ill = i;
                }
            }
            if (ill < 0) {
                if (state == IN_TAG || state == BEHIND_TAG || state == IN_NAME || state == IN_VALUE) {
                    endAtom();
                }
                if (state != BEHIND || !open.isEmpty()) {
                    ill = filter.length();
                }
            }
        }

        private void endAtom() {
            tokens.add(word.toString());
            word = new StringBuilder();
            endNot();
            state = BEHIND;
        }

        private void endNot() {
            while (!open.isEmpty() && open.peek() == '!') {
                open.pop();
            }
        }

        private boolean step(char c) {
            boolean inWord = state == IN_TAG || state == IN_NAME || state == IN_VALUE;
            boolean letter = c >= 'a' && c <= 'z';
            boolean wordly = letter || c >= '0' && c <= '9' || c == '_';
            if (inWord && wordly) {
                word.append(c);
                wordLength++;
                return wordLength <= 12;
            }
            if (c == ' ') {
                if (state == IN_TAG) {
                    state = BEHIND_TAG;
                } else if (inWord) {
                    endAtom();
                }
                return true;
            }
            if (c == ':' && (state == IN_TAG || state == BEHIND_TAG)) {
                word.append(c);
                state = WANT_VALUE;
                return true;
            }
            if (inWord || state == BEHIND_TAG) {
                endAtom();
            }
            switch (state) {
                case OPERAND: return operand(c, letter);
                case BEHIND: return behind(c);
                case WANT_NAME: return begins(c, letter, IN_NAME);
                case WANT_VALUE: return begins(c, wordly, IN_VALUE);
                default:
                    word.append(c);
                    if (c >= '1' && c <= '9') {
                        endAtom();
                        return true;
                    }
                    return false;
            }
        }

        private boolean begins(char c, boolean may, int then) {
            word.append(c);
            wordLength = 1;
            state = then;
            return may;
        }

        private boolean operand(char c, boolean letter) {
            switch (c) {
                case '!':
                case '(':
                    open.push(c);
                    tokens.add("" + c);
                    return open.size() <= 12;
                case '@':
                case '=':
                    word.append(c);
                    state = WANT_NAME;
                    return true;
                case '<':
                    word.append(c);
                    state = WANT_DIGIT;
                    return true;
                case '?':
                case '~':
                    word.append(c);
                    endAtom();
                    return true;
                default:
                    return begins(c, letter, IN_TAG);
            }
        }

        private boolean behind(char c) {
            tokens.add("" + c);
            if (c == ')') {
                if (open.isEmpty()) {
                    return false;
                }
                open.pop();
                endNot();
                return true;
            }
            state = OPERAND;
            return c == '&' || c == '|';
        }

        boolean passes(Item t) {
            ArrayDeque<String> marks = new ArrayDeque<>();
            ArrayDeque<Boolean> answers = new ArrayDeque<>();
            for (String token : tokens) {
                switch (token) {
                    case "!":
                    case "(":
                        marks.push(token);
                        break;
                    case ")":
                        while (!marks.peek().equals("(")) {
                            apply(marks.pop(), answers);
                        }
                        marks.pop();
                        break;
                    case "&":
                    case "|":
                        while (!marks.isEmpty() && "|&!".indexOf(marks.peek()) >= "|&!".indexOf(token)) {
                            apply(marks.pop(), answers);
                        }
                        marks.push(token);
                        break;
                    default:
                        answers.push(atom(token, t));
                }
            }
            while (!marks.isEmpty()) {
                apply(marks.pop(), answers);
            }
            return answers.pop();
        }

        private static void apply(String mark, ArrayDeque<Boolean> answers) {
            boolean last = answers.pop();
            if (mark.equals("!")) {
                answers.push(!last);
            } else {
                boolean first = answers.pop();
                answers.push(mark.equals("&") ? first & last : first | last);
            }
        }

        private static boolean atom(String token, Item t) {
            String rest = token.substring(1);
            switch (token.charAt(0)) {
                case '@': return t.suiteNumber >= 0 && t.suite.equals(rest);
                case '=': return t.caseName.equals(rest);
                case '<': return t.size < Integer.parseInt(rest);
                case '?': return t.reason != null;
                case '~': return t.fails;
                default:
                    if (token.indexOf(':') < 0) {
                        return t.tags.contains(token);
                    }
                    String[] parts = token.split(":");
                    return parts[1].equals(t.given.get(parts[0]));
            }
        }
    }

    /** One object's life. */
    private static final class Run {
        static int right;
        static int ill;
        static int filtersRight;
        static int filtersIll;

        private static final String[] NAMES = {"a", "b", "c", "d_", "e1", "abcdefghijkl", "zzzzzzzzzzzz"};
        private static final String[] VALUES = {"1", "2", "3", "_", "a", "0bcdefghijkl", "999999999999", "____________"};
        private static final String[] MARKS = {"&", "|", "!", "(", ")", " ", "@", "=", ":", "<", "?", "~", "\n", "A", "7"};

        private final int seed;
        private final Random random;
        private final TestFinder x = new TestFinder();
        private ScriptModel script = new ScriptModel("");
        private FilterModel filter = null;

        Run(int seed) {
            this.seed = seed;
            random = new Random(seed);
        }

        void go() {
            for (int turn = 0; turn < 3; turn++) {
                readScript();
                compare();
                for (int i = 0; i < 4; i++) {
                    readFilter();
                    comparePassing();
                }
                find();
            }
        }

        private String one(String[] of) {
            return of[random.nextInt(of.length)];
        }

        private boolean chance(int oneIn) {
            return random.nextInt(oneIn) == 0;
        }

        private String name() {
            if (chance(400)) {
                return chance(2) ? "1a" : "abcdefghijklm";
            }
            return chance(2) ? one(NAMES) : one(NAMES).substring(0, 1) + random.nextInt(100);
        }

        private String line(Set<String> used) {
            String blank = chance(3) ? "  " : " ";
            String at = chance(4) ? " " : "";
            switch (random.nextInt(12)) {
                case 0: return at + "suite" + blank + name();
                case 1: case 2: case 3: return "case" + blank + name() + at;
                case 4: return once(used, "size", "size " + (chance(100) ? 0 : 1 + random.nextInt(9)));
                case 5: return once(used, "skip", "skip" + blank + "it" + blank + "x#" + blank + name() + at);
                case 6: return once(used, "fails", "fails" + at);
                case 7: case 8: return "tag " + name() + (chance(2) ? blank + name() : "");
                case 9: case 10: return with(blank);
                default: return chance(60) ? "wrong" : chance(2) ? at : at + "#" + at + name();
            }
        }

        /** Mostly keeps from telling a thing twice, or few scripts of any length would be right. */
        private String once(Set<String> used, String what, String line) {
            return used.add(what) || chance(50) ? line : "";
        }

        private String with(String blank) {
            StringBuilder line = new StringBuilder("with " + name());
            int values = chance(100) ? 7 : 1 + random.nextInt(chance(4) ? 6 : 3);
            List<String> left = new ArrayList<>(List.of(VALUES));
            for (int i = 0; i < values; i++) {
                int at = random.nextInt(left.size());
                line.append(blank).append(chance(300) ? one(VALUES) : left.remove(at));
            }
            return line.toString();
        }

        private String randomScript() {
            StringBuilder text = new StringBuilder(chance(20) ? "" : "case a\n");
            int lines = random.nextInt(chance(3) ? 60 : 14);
            Set<String> used = new HashSet<>();
            for (int i = 0; i < lines; i++) {
                String line = line(used);
                boolean breaks = new ScriptModel(text + line).ill >= 0;
                if (breaks && !chance(10)) {
                    continue;
                }
                if (line.contains("case")) {
                    used.clear();
                }
                if (text.length() + line.length() < 1200) {
                    text.append(line).append(i == lines - 1 ? "" : "\n");
                }
            }
            return text.toString();
        }

        private void readScript() {
            String text = randomScript();
            script = new ScriptModel(text);
            filter = null;
            if (script.ill < 0) {
                right++;
            } else {
                ill++;
            }
            Checks.due("seed " + seed + ", script() of\n" + text + "\n", script.ill, Checks.script(x, text));
        }

        private void compare() {
            Checks.due("suites", script.suites.size(), x.count(0));
            Checks.due("cases", script.cases.size(), x.count(1));
            Checks.due("tests", script.tests.size(), x.count(2));
            for (int i = 0; i < script.tests.size(); i++) {
                Item t = script.tests.get(i);
                int[] want = {t.caseNumber, t.suiteNumber, t.size, t.reason == null ? 0 : 1, t.fails ? 1 : 0,
                    t.tags.size(), t.given.size(), t.name.length(), t.line, -1};
                for (int what = 0; what < want.length; what++) {
                    Checks.due("seed " + seed + ", test(" + i + ", " + what + ")", want[what], x.test(i, what));
                }
                Checks.due("seed " + seed + ", name " + i, t.name, Checks.name(x, i));
                Checks.due("seed " + seed + ", reason " + i, t.reason == null ? "" : t.reason, Checks.reason(x, i));
                int passed = t.reason != null ? 3 : t.fails ? 4 : 0;
                int failed = t.reason != null ? 3 : t.fails ? 1 : 2;
                Checks.due("seed " + seed + ", judge " + i, passed, x.judge(i, true));
                Checks.due("seed " + seed + ", judge " + i, failed, x.judge(i, false));
            }
        }

        private String atom() {
            String blank = chance(6) ? " " : "";
            switch (random.nextInt(8)) {
                case 0: return "?";
                case 1: return "~";
                case 2: return "<" + blank + (1 + random.nextInt(9));
                case 3: return "@" + blank + name();
                case 4: return "=" + blank + name();
                case 5: case 6: return name() + blank + ":" + blank + one(VALUES);
                default: return name();
            }
        }

        private String either(int depth) {
            if (depth == 0 || chance(4)) {
                return atom();
            }
            String blank = chance(4) ? " " : "";
            switch (random.nextInt(4)) {
                case 0: return "!" + blank + either(depth - 1);
                case 1: return "(" + blank + either(depth - 1) + blank + ")";
                case 2: return either(depth - 1) + blank + "&" + blank + either(depth - 1);
                default: return either(depth - 1) + blank + "|" + blank + either(depth - 1);
            }
        }

        private String randomFilter() {
            StringBuilder text = new StringBuilder(either(random.nextInt(5)));
            if (chance(6)) {
                for (int i = random.nextInt(14); i > 0; i--) {
                    boolean not = chance(2);
                    text.insert(0, not ? "!" : "(").append(not ? "" : ")");
                }
            }
            for (int i = chance(2) ? 0 : random.nextInt(3); i > 0; i--) {
                int at = random.nextInt(text.length() + 1);
                if (chance(3) && at < text.length()) {
                    text.deleteCharAt(at);
                } else {
                    text.insert(at, one(MARKS));
                }
            }
            return text.toString();
        }

        private void readFilter() {
            String text = randomFilter();
            FilterModel model = new FilterModel(text);
            if (model.ill < 0) {
                filtersRight++;
                filter = model;
            } else {
                filtersIll++;
            }
            Checks.due("seed " + seed + ", filter() of " + text, model.ill, Checks.filter(x, text));
        }

        private void comparePassing() {
            int passing = 0;
            for (int i = 0; i < script.tests.size(); i++) {
                boolean want = filter == null || filter.passes(script.tests.get(i));
                passing += want ? 1 : 0;
                Checks.due("seed " + seed + ", passes(" + i + ")", want, x.passes(i));
            }
            Checks.due("seed " + seed + ", passing()", passing, x.passing());
        }

        private void find() {
            for (int i = 0; i < script.tests.size(); i += 1 + random.nextInt(9)) {
                StringBuilder name = new StringBuilder(script.tests.get(i).name);
                int want = i;
                if (chance(3)) {
                    name.deleteCharAt(random.nextInt(name.length()));
                    want = -1;
                    for (int j = 0; j < script.tests.size(); j++) {
                        want = script.tests.get(j).name.contentEquals(name) ? j : want;
                    }
                }
                Checks.due("seed " + seed + ", find() of " + name, want, Checks.find(x, name.toString()));
            }
        }
    }
}
