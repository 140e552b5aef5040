/** What the project's tests share: putting texts on the tape, and counting wrong answers. */
final class Checks {
    private static int checked = 0;
    private static int wrong = 0;

    private Checks() {
    }

    static void due(String call, long want, long got) {
        checked++;
        if (got != want) {
            wrong++;
            System.out.println(call + " answered " + got + ", due is " + want);
        }
    }

    static void due(String call, boolean want, boolean got) {
        due(call, want ? 1L : 0L, got ? 1L : 0L);
    }

    static void due(String call, String want, String got) {
        checked++;
        if (!want.equals(got)) {
            wrong++;
            System.out.println(call + " answered '" + got + "', due is '" + want + "'");
        }
    }

    static void end() {
        System.out.println(checked + " answers checked, " + wrong + " wrong");
        if (wrong != 0 || checked == 0) {
            System.exit(1);
        }
    }

    static long pack(String eight) {
        long w = 0;
        for (int i = 0; i < eight.length(); i++) {
            w = w << 8 | eight.charAt(i) & 255;
        }
        return w;
    }

    static TestFinder put(TestFinder finder, String text) {
        for (int from = 0; from < text.length(); from += 8) {
            String part = text.substring(from, Math.min(from + 8, text.length()));
            due("text of '" + part + "'", true, finder.text(pack(part)));
        }
        return finder;
    }

    static TestFinder put(String text) {
        return put(new TestFinder(), text);
    }

    static int script(TestFinder finder, String script) {
        return put(finder, script).script();
    }

    static int filter(TestFinder finder, String filter) {
        return put(finder, filter).filter();
    }

    static int find(TestFinder finder, String name) {
        return put(finder, name).find();
    }

    /** A new finder with a script that must be right. */
    static TestFinder finder(String script) {
        TestFinder finder = new TestFinder();
        due("script() of\n" + script, TestFinder.NONE, script(finder, script));
        return finder;
    }

    static String name(TestFinder finder, int test) {
        StringBuilder name = new StringBuilder();
        for (int k = 0; finder.letter(test, k) != TestFinder.NONE; k++) {
            name.append((char) finder.letter(test, k));
        }
        return name.toString();
    }

    static String reason(TestFinder finder, int test) {
        StringBuilder reason = new StringBuilder();
        for (int k = 0; finder.reason(test, k) != TestFinder.NONE; k++) {
            reason.append((char) finder.reason(test, k));
        }
        return reason.toString();
    }

    /** The tests that pass, a letter each: 1 or 0. */
    static String passing(TestFinder finder) {
        StringBuilder passing = new StringBuilder();
        for (int test = 0; test < finder.count(2); test++) {
            passing.append(finder.passes(test) ? '1' : '0');
        }
        return passing.toString();
    }

    /** The script's answer on a new object. */
    static void dueScript(int want, String script) {
        due("script() of\n" + script, want, script(new TestFinder(), script));
    }

    /** The filter's answer on a new object. */
    static void dueFilter(int want, String filter) {
        due("filter() of " + filter, want, filter(new TestFinder(), filter));
    }
}
