/** Promises 3 and 4: what a script leaves behind it, right or ill, and the counts. */
public final class ScriptTest {
    public static void main(String[] args) {
        becomesTheScript();
        anEmptyTape();
        theTapeIsEmptyThen();
        illLeavesNothing();
        theFilterGoes();
        beginsAnew();
        nothingComesOver();
        counts();
        anotherWhat();
        Checks.end();
    }

    private static void becomesTheScript() {
        Checks.sentence("The TAPE becomes the SCRIPT ..: NONE, TESTS being those of it");
        TestFinder x = Checks.finder("case a\nsuite s\ncase a\nwith p 1 2\nwith q 1 2 3\nsuite t");
        Checks.dueCounts(x, 2, 2, 7);
        Checks.due("a second one", -1, Checks.script(x, "case b"));
        Checks.dueCounts(x, 0, 1, 1);
        Checks.dueTold(x, 0, 0, -1, 1, 0, 0, 0, 0, 1, 0, -1);
        Checks.due("its name", "b", Checks.name(x, 0));
    }

    private static void anEmptyTape() {
        Checks.sentence("The TAPE becomes the SCRIPT ..: NONE, TESTS being those of it");
        TestFinder x = Checks.finder("suite s\ncase a\ncase b");
        Checks.due("an empty one", -1, x.script());
        Checks.dueCounts(x, 0, 0, 0);
        Checks.due("test", -1, x.test(0, 0));
        Checks.due("passing", 0, x.passing());
        Checks.due("of zeros alone", true, x.text(0));
        Checks.due("an empty one again", -1, x.script());
    }

    private static void theTapeIsEmptyThen() {
        Checks.sentence("The TAPE becomes the SCRIPT, and is empty then");
        for (String script : new String[] {"case a", "wrong", "case a\nwrong", "#"}) {
            TestFinder x = new TestFinder();
            Checks.script(x, script);
            Checks.due("filter of nothing, behind " + script, 0, x.filter());
            Checks.script(x, script);
            Checks.due("script of nothing, behind " + script, -1, x.script());
            Checks.dueCounts(x, 0, 0, 0);
        }
    }

    /** Also if all but its last line is right. */
    private static void illLeavesNothing() {
        Checks.sentence("or the LINE at which it is ILL (there are no SUITES, no CASES and no TESTS then)");
        for (String ill : new String[] {"wrong", "suite s\ncase a\nwith p 1 2\nskip x\nwrong"}) {
            TestFinder x = Checks.finder("suite s\ncase a\nskip x\ncase b");
            Checks.due("an ill one", ill.length() < 6 ? 0 : 4, Checks.script(x, ill));
            Checks.dueCounts(x, 0, 0, 0);
            for (int what = 0; what <= 8; what++) {
                Checks.due("test(0, " + what + ")", -1, x.test(0, what));
            }
            Checks.due("letter", -1, x.letter(0, 0));
            Checks.due("reason", -1, x.reason(0, 0));
            Checks.due("judge", -1, x.judge(0, true));
            Checks.due("passes", false, x.passes(0));
            Checks.due("passing", 0, x.passing());
            Checks.due("find", -1, Checks.find(x, "s.a"));
            Checks.due("a right one", -1, Checks.script(x, "case a\ncase b"));
            Checks.dueCounts(x, 0, 2, 2);
            Checks.dueTold(x, 0, 0, -1, 1, 0, 0, 0, 0, 1, 0);
        }
    }

    private static void theFilterGoes() {
        Checks.sentence("The FILTER goes");
        for (String script : new String[] {"case a\ncase b", "", "wrong"}) {
            TestFinder x = Checks.finder("case a\ncase b", "?");
            Checks.due("passing", 0, x.passing());
            Checks.script(x, script);
            Checks.due("passing", script.length() > 5 ? 2 : 0, x.passing());
            Checks.due("passes", script.length() > 5, x.passes(1));
            Checks.due("one more script", -1, Checks.script(x, "case c"));
            Checks.due("passing", 1, x.passing());
        }
        TestFinder x = new TestFinder();
        Checks.due("a filter before there are tests", -1, Checks.filter(x, "?"));
        Checks.due("script", -1, Checks.script(x, "case a"));
        Checks.due("passing", 1, x.passing());
    }

    private static void beginsAnew() {
        Checks.sentence("tag where there is neither a SUITE nor a CASE; with, size, skip, fails where there is no CASE");
        for (String last : new String[] {"suite s\ntag t\ncase a", "suite s\ntag t", "case a", "suite s\ntag t\nx"}) {
            for (String next : new String[] {"tag u", "with p 1", "size 1", "skip x", "fails"}) {
                TestFinder x = new TestFinder();
                Checks.script(x, last);
                Checks.due(next + " behind " + last, 0, Checks.script(x, next));
            }
            TestFinder x = new TestFinder();
            Checks.script(x, last);
            Checks.due("the same again", last.endsWith("x") ? 2 : -1, Checks.script(x, last));
            Checks.due("another", -1, Checks.script(x, "case a\nsuite s\ncase a"));
            Checks.due("no tags are left", 0, x.test(0, 5) + x.test(1, 5));
        }
    }

    /** All that a script can be full of is free again for the next one. */
    private static void nothingComesOver() {
        Checks.sentence("The TAPE becomes the SCRIPT ..: NONE, TESTS being those of it");
        String cases = Checks.many(40, "case c", "\n");
        String suites = Checks.many(10, "suite s", "\n") + "tag a b c d e f g h\ncase a\nwith p 1\nwith q 1\n"
                + "with r 1\nwith s 1\nsize 2\nskip x\nfails";
        for (String full : new String[] {cases, suites, Checks.fullScript()}) {
            TestFinder x = Checks.finder(full);
            Checks.due("the same again", -1, Checks.script(x, full));
            Checks.due("and ill behind", full.split("\n").length, Checks.script(x, full + "\nwrong")
                    - (full.endsWith("\n") ? 1 : 0));
            Checks.due("and again", -1, Checks.script(x, full));
        }
    }

    private static void counts() {
        Checks.sentence("How many SUITES (what 0), CASES (1), TESTS (2) there are");
        Checks.dueCounts(Checks.finder("# no\n"), 0, 0, 0);
        Checks.dueCounts(Checks.finder("suite s"), 1, 0, 0);
        Checks.dueCounts(Checks.finder("case s"), 0, 1, 1);
        Checks.dueCounts(Checks.finder(Checks.many(10, "suite s", "\n")), 10, 0, 0);
        Checks.dueCounts(Checks.finder(Checks.many(10, "suite s", "\ncase a\ncase b\ncase c\ncase d\n")), 10, 40, 40);
        Checks.dueCounts(Checks.finder(Checks.many(40, "case c", "\nwith p 1 2 3\n")), 0, 40, 120);
        Checks.dueCounts(Checks.finder(Checks.fullScript()), 0, 5, 120);
    }

    private static void anotherWhat() {
        Checks.sentence("NONE for another what");
        TestFinder x = Checks.finder("suite s\ncase a");
        for (int what : Checks.FAR) {
            Checks.due("count(" + what + ")", -1, x.count(what));
        }
        for (int what : new int[] {3, 4, 256, 65536, 1 << 30}) {
            Checks.due("count(" + what + ")", -1, x.count(what));
        }
        Checks.dueCounts(x, 1, 1, 1);
    }
}
