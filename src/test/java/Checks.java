import java.util.ArrayList;
import java.util.List;

/** What the project's tests share: putting texts on the tape, and counting wrong answers. */
final class Checks {
    static final int NONE = TestFinder.NONE;

    /** Numbers that no test, no character and no kind of question has, whatever the script. */
    static final int[] FAR = {Integer.MIN_VALUE, Integer.MIN_VALUE + 1, -1201, -2, -1, 1201,
        Integer.MAX_VALUE - 1, Integer.MAX_VALUE};

    private static int checked = 0;
    private static int wrong = 0;
    private static String sentence = "";

    private Checks() {
    }

    /** The sentence of the document that the checks from here on test; told if one of them fails. */
    static void sentence(String words) {
        sentence = words;
    }

    static void due(String call, long want, long got) {
        checked++;
        if (got != want) {
            tellWrong(call + " answered " + got + ", due is " + want);
        }
    }

    static void due(String call, boolean want, boolean got) {
        due(call, want ? 1L : 0L, got ? 1L : 0L);
    }

    static void due(String call, String want, String got) {
        checked++;
        if (!want.equals(got)) {
            tellWrong(call + " answered '" + got + "', due is '" + want + "'");
        }
    }

    private static void tellWrong(String what) {
        wrong++;
        System.out.println((sentence.isEmpty() ? "" : "\"" + sentence + "\": ") + what);
    }

    static void end() {
        System.out.println(checked + " answers checked, " + wrong + " wrong");
        if (wrong != 0 || checked == 0) {
            System.exit(1);
        }
    }

    static long pack(String eight) {
        long w = 0;
        for (int i = 0; i < eight.length(); i++) {
            w = w << 8 | eight.charAt(i) & 255;
        }
        return w;
    }

    static TestFinder put(TestFinder finder, String text) {
        for (int from = 0; from < text.length(); from += 8) {
            String part = text.substring(from, Math.min(from + 8, text.length()));
            due("text of '" + part + "'", true, finder.text(pack(part)));
        }
        return finder;
    }

    static TestFinder put(String text) {
        return put(new TestFinder(), text);
    }

    static int script(TestFinder finder, String script) {
        return put(finder, script).script();
    }

    static int filter(TestFinder finder, String filter) {
        return put(finder, filter).filter();
    }

    static int find(TestFinder finder, String name) {
        return put(finder, name).find();
    }

    /** A new finder with a script that must be right. */
    static TestFinder finder(String script) {
        TestFinder finder = new TestFinder();
        due("script() of\n" + script, NONE, script(finder, script));
        return finder;
    }

    /** A new finder with a script and a filter that must be right. */
    static TestFinder finder(String script, String filter) {
        TestFinder finder = finder(script);
        due("filter() of " + filter, NONE, filter(finder, filter));
        return finder;
    }

    static String name(TestFinder finder, int test) {
        StringBuilder name = new StringBuilder();
        for (int c = finder.letter(test, 0); c != NONE; c = finder.letter(test, name.length())) {
            name.append((char) c);
        }
        return name.toString();
    }

    static String reason(TestFinder finder, int test) {
        StringBuilder reason = new StringBuilder();
        for (int c = finder.reason(test, 0); c != NONE; c = finder.reason(test, reason.length())) {
            reason.append((char) c);
        }
        return reason.toString();
    }

    /** The tests that pass, a letter each: 1 or 0. */
    static String passing(TestFinder finder) {
        StringBuilder passing = new StringBuilder();
        int tests = finder.count(2);
        for (int test = 0; test < tests; test++) {
            passing.append(finder.passes(test) ? '1' : '0');
        }
        return passing.toString();
    }

    static void dueCounts(TestFinder x, int suites, int cases, int tests) {
        due("count(0)", suites, x.count(0));
        due("count(1)", cases, x.count(1));
        due("count(2)", tests, x.count(2));
    }

    /** What test(test, 0), test(test, 1), .. answer. */
    static void dueTold(TestFinder x, int test, int... want) {
        for (int what = 0; what < want.length; what++) {
            due("test(" + test + ", " + what + ")", want[what], x.test(test, what));
        }
    }

    /** The script's answer on a new object, and that there is nothing if it is ill. */
    static void dueScript(int want, String script) {
        TestFinder x = new TestFinder();
        due("script() of\n" + script + "\n", want, script(x, script));
        if (want != NONE) {
            dueCounts(x, 0, 0, 0);
        }
    }

    /** The filter's answer on a new object. */
    static void dueFilter(int want, String filter) {
        due("filter() of '" + filter + "'", want, filter(new TestFinder(), filter));
    }

    /** "word 0", "word 1", ..: as many as are asked for, each with the text before and behind it. */
    static String many(int count, String before, String behind) {
        StringBuilder all = new StringBuilder();
        for (int i = 0; i < count; i++) {
            all.append(before).append(i).append(behind);
        }
        return all.toString();
    }

    /** Five cases of 24 tests: the 120 that there may be. */
    static String fullScript() {
        return many(5, "case c", "\nwith p 1 2 3 4 5 6\nwith q 1 2 3 4\n");
    }

    /** All characters that may be on the tape. */
    static List<Character> tapeCharacters() {
        List<Character> all = new ArrayList<>();
        all.add('\n');
        for (char c = 32; c <= 126; c++) {
            all.add(c);
        }
        return all;
    }

    static boolean isLetter(char c) {
        return "abcdefghijklmnopqrstuvwxyz".indexOf(c) >= 0;
    }

    static boolean isOfAName(char c) {
        return isLetter(c) || "0123456789_".indexOf(c) >= 0;
    }
}
