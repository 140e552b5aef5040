/** Promises 3 and 4: which scripts are right, at which line others are not, and the counts. */
public final class ScriptTest {
    public static void main(String[] args) {
        becomesTheScript();
        illLeavesNothing();
        beginsAnew();
        lines();
        names();
        numbersOfWords();
        places();
        twice();
        tags();
        parameters();
        limits();
        Checks.end();
    }

    private static void dueCounts(TestFinder x, int suites, int cases, int tests) {
        Checks.due("count(0)", suites, x.count(0));
        Checks.due("count(1)", cases, x.count(1));
        Checks.due("count(2)", tests, x.count(2));
    }

    private static void becomesTheScript() {
        TestFinder x = Checks.finder("case a\nsuite s\ncase a\nwith p 1 2\nwith q 1 2 3\nsuite t");
        dueCounts(x, 2, 2, 7);
        for (int what : new int[] {-1, 3, 4, Integer.MAX_VALUE, Integer.MIN_VALUE}) {
            Checks.due("count(" + what + ")", -1, x.count(what));
        }
        Checks.due("an empty one", -1, x.script());
        dueCounts(x, 0, 0, 0);
        Checks.due("a second one", -1, Checks.script(x, "case b"));
        dueCounts(x, 0, 1, 1);
        Checks.due("test(0, 6)", 0, x.test(0, 6));
        Checks.due("test(0, 5)", 0, x.test(0, 5));
    }

    private static void illLeavesNothing() {
        TestFinder x = Checks.finder("suite s\ncase a\nskip x\ncase b");
        Checks.due("filter", -1, Checks.filter(x, "?"));
        Checks.due("passing", 1, x.passing());
        Checks.due("an ill one", 2, Checks.script(x, "suite s\ncase a\nwrong"));
        dueCounts(x, 0, 0, 0);
        Checks.due("test", -1, x.test(0, 0));
        Checks.due("passing", 0, x.passing());
        Checks.due("the tape is empty, the filter gone", -1, Checks.script(x, "case a\ncase b"));
        Checks.due("passing", 2, x.passing());
        Checks.due("nothing is left of the case", 0, x.test(0, 3));
        Checks.due("filter", -1, Checks.filter(x, "?"));
        Checks.due("passing", 0, x.passing());
        Checks.due("a right one", -1, Checks.script(x, "case a\ncase b"));
        Checks.due("the filter is gone", 2, x.passing());
    }

    /** A script does not go on where the last one ended. */
    private static void beginsAnew() {
        for (String last : new String[] {"suite s\ntag t\ncase a", "suite s\ntag t", "case a", "suite s\ntag t\nx"}) {
            for (String next : new String[] {"tag u", "with p 1", "size 1", "skip x", "fails"}) {
                TestFinder x = new TestFinder();
                Checks.script(x, last);
                Checks.due(next + " behind " + last, 0, Checks.script(x, next));
            }
            TestFinder x = new TestFinder();
            Checks.script(x, last);
            Checks.due("the same again", last.endsWith("x") ? 2 : -1, Checks.script(x, last));
            Checks.due("another", -1, Checks.script(x, "case a\nsuite s\ncase a"));
            Checks.due("no tags are left", 0, x.test(0, 5) + x.test(1, 5));
        }
    }

    private static void lines() {
        Checks.dueScript(-1, "\n\n  \n#\n # case A\n#case A\n   #");
        Checks.dueScript(-1, "  case   a  \n   tag  b   c ");
        Checks.dueScript(-1, "case a\n");
        Checks.dueScript(5, "\n\n#x\n \ncase a\nx");
        Checks.dueScript(0, "Case a");
        Checks.dueScript(0, "cases a");
        Checks.dueScript(0, "cas a");
        Checks.dueScript(0, "case# a");
        Checks.dueScript(0, "!");
        Checks.dueScript(1199, "\n".repeat(1199) + "x");
        Checks.dueScript(-1, "\n".repeat(1200));
        Checks.dueScript(0, "x" + "\n".repeat(1199));
        Checks.dueScript(-1, "case a\nskip" + " x".repeat(594));
        Checks.dueScript(0, "x ".repeat(600));
        Checks.dueScript(-1, "# ".repeat(600));
        Checks.dueScript(-1, "#".repeat(1193) + "\ncase a");
        Checks.dueScript(-1, "#".repeat(1182) + "\ncase abcdefghijkl");
        Checks.dueScript(1, "#".repeat(1181) + "\ncase abcdefghijklm");
    }

    private static void names() {
        for (String right : new String[] {"a", "z", "a_", "a0", "z9", "abcdefghijkl", "zzzzzzzzzzzz"}) {
            Checks.dueScript(-1, "case " + right);
            Checks.dueScript(-1, "suite " + right);
            Checks.dueScript(-1, "case a\ntag " + right);
            Checks.dueScript(-1, "case a\nwith " + right + " 1");
            Checks.dueScript(-1, "case a\nwith p " + right);
        }
        for (String value : new String[] {"0", "9", "_", "0a", "_a", "9bcdefghijkl", "____________"}) {
            Checks.dueScript(0, "case " + value);
            Checks.dueScript(0, "suite " + value);
            Checks.dueScript(1, "case a\ntag " + value);
            Checks.dueScript(1, "case a\nwith " + value + " 1");
            Checks.dueScript(-1, "case a\nwith p " + value);
        }
        for (String wrong : new String[] {"A", "aB", "a-b", "a.b", "abcdefghijklm", "a#", "`", "{", "a/", "a:", "a,"}) {
            Checks.dueScript(0, "case " + wrong);
            Checks.dueScript(0, "suite " + wrong);
            Checks.dueScript(1, "case a\ntag b " + wrong);
            Checks.dueScript(1, "case a\nwith " + wrong + " 1");
            Checks.dueScript(1, "case a\nwith p 1 " + wrong);
        }
        for (int digit = 1; digit <= 9; digit++) {
            TestFinder x = Checks.finder("case a\nsize " + digit);
            Checks.due("size", digit, x.test(0, 2));
        }
        for (String wrong : new String[] {"0", "10", "01", "a", "-1", "1.", ":", "/"}) {
            Checks.dueScript(1, "case a\nsize " + wrong);
        }
    }

    private static void numbersOfWords() {
        for (String wrong : new String[] {"case", "case a b", "case a #", "suite", "suite a b"}) {
            Checks.dueScript(0, wrong);
        }
        for (String wrong : new String[] {"tag", "with", "with p", "size", "size 1 2", "skip", "fails a", "fails fails"}) {
            Checks.dueScript(1, "case a\n" + wrong);
        }
        Checks.dueScript(1, "suite a\ntag");
    }

    private static void places() {
        Checks.dueScript(0, "tag a");
        Checks.dueScript(-1, "case a\ntag a");
        Checks.dueScript(-1, "suite a\ntag a");
        for (String inCase : new String[] {"with p 1", "size 1", "skip x", "fails"}) {
            Checks.dueScript(0, inCase);
            Checks.dueScript(1, "suite s\n" + inCase);
            Checks.dueScript(2, "case a\nsuite s\n" + inCase);
            Checks.dueScript(3, "suite r\ncase a\nsuite s\n" + inCase);
            Checks.dueScript(-1, "case a\n" + inCase);
            Checks.dueScript(-1, "suite s\ncase a\n" + inCase);
        }
    }

    private static void twice() {
        Checks.dueScript(2, "case a\nsize 1\nsize 1");
        Checks.dueScript(2, "case a\nskip x\nskip y");
        Checks.dueScript(2, "case a\nfails\nfails");
        Checks.dueScript(-1, "case a\nsize 1\nskip x\nfails\ncase b\nsize 1\nskip x\nfails");
        Checks.dueScript(2, "suite a\nsuite b\nsuite a");
        Checks.dueScript(2, "case a\ncase b\ncase a");
        Checks.dueScript(3, "suite s\ncase a\ncase b\ncase a");
        Checks.dueScript(-1, "case a\nsuite s\ncase a\nsuite t\ncase a\nsuite a\ncase s");
    }

    private static void tags() {
        Checks.dueScript(1, "case a\ntag b b");
        Checks.dueScript(2, "case a\ntag b\ntag c b");
        Checks.dueScript(1, "suite s\ntag b b");
        Checks.dueScript(2, "suite s\ntag b\ntag c b");
        Checks.dueScript(3, "suite s\ntag b\ncase a\ntag b");
        Checks.dueScript(-1, "suite s\ntag b\ncase a\ntag c\ncase d\ntag c\nsuite t\ntag b c\ncase a");
        Checks.dueScript(-1, "suite s\ntag b\nsuite t\ncase a\ntag b");
        Checks.dueScript(-1, "case a\ntag a b c d e f g h");
        Checks.dueScript(1, "case a\ntag a b c d e f g h i");
        Checks.dueScript(2, "case a\ntag a b c d e f g h\ntag i");
        Checks.dueScript(-1, "suite s\ntag a b c d e f g h\ncase a");
        Checks.dueScript(2, "suite s\ntag a b c d\ntag e f g h i");
        Checks.dueScript(3, "suite s\ntag a b c d e f g h\ncase a\ntag i");
        Checks.dueScript(-1, "suite s\ntag a b c d e f g\ncase a\ntag h\ncase b\ntag h");
        Checks.dueScript(4, "suite s\ntag a b c d e f g\ncase a\ntag h\ntag i");
    }

    private static void parameters() {
        Checks.dueScript(2, "case a\nwith p 1\nwith p 2");
        Checks.dueScript(-1, "case a\nwith p 1\ncase b\nwith p 1");
        Checks.dueScript(-1, "case a\nwith p 1\nwith q 1\nwith r 1\nwith s 1");
        Checks.dueScript(5, "case a\nwith p 1\nwith q 1\nwith r 1\nwith s 1\nwith t 1");
        Checks.dueScript(1, "case a\nwith p 1 2 1");
        Checks.dueScript(-1, "case a\nwith p 1 2\nwith q 1 2 01 _1");
        Checks.dueScript(-1, "case a\nwith p 1 2 3 4 5 6");
        Checks.dueScript(1, "case a\nwith p 1 2 3 4 5 6 7");
    }

    private static void limits() {
        Checks.dueScript(-1, "case a\nwith p 1 2 3 4 5 6\nwith q 1 2 3 4");
        Checks.dueScript(2, "case a\nwith p 1 2 3 4 5 6\nwith q 1 2 3 4 5");
        Checks.dueScript(2, "case a\nwith p 1 2 3 4 5\nwith q 1 2 3 4 5");
        Checks.dueScript(-1, "case a\nwith p 1 2\nwith q 1 2\nwith r 1 2\nwith s 1 2 3");
        Checks.dueScript(4, "case a\nwith p 1 2\nwith q 1 2\nwith r 1 2\nwith s 1 2 3 4");
        Checks.dueScript(3, "case a\nwith p 1 2 3 4 5 6\nwith q 1 2 3 4\nwith r 1 2");

        String full = "";
        for (int i = 0; i < 5; i++) {
            full += "case c" + i + "\nwith p 1 2 3 4 5 6\nwith q 1 2 3 4\n";
        }
        Checks.due("120 tests", 120, Checks.finder(full).count(2));
        Checks.dueScript(15, full + "case d");
        String almost = full.replace("with p 1 2 3 4 5 6\nwith q 1 2 3 4\ncase c1", "with p 1 2 3 4 5\nwith q 1 2 3 4\ncase c1");
        Checks.due("119 tests", 119, Checks.finder(almost + "case d\nwith p 1 2 3\ntag t").count(2));
        Checks.due("120 tests", 120, Checks.finder(almost + "case d\nwith p 1 2 3\ncase e").count(2));
        Checks.dueScript(18, almost + "case d\nwith p 1 2 3\ncase e\ncase f");
        Checks.dueScript(16, almost + "case d\nwith p 1 2 3 4 5");
        Checks.dueScript(18, almost + "case d\nwith p 1 2 3\ncase e\nwith p 1 2");

        String cases = "";
        for (int i = 0; i < 40; i++) {
            cases += "case c" + i + "\n";
        }
        Checks.due("40 cases", 40, Checks.finder(cases).count(1));
        Checks.dueScript(40, cases + "case d");
        Checks.dueScript(41, cases + "suite d\ncase d");

        String suites = "";
        for (int i = 0; i < 10; i++) {
            suites += "suite s" + i + "\n";
        }
        Checks.due("10 suites", 10, Checks.finder(suites + "case a").count(0));
        Checks.dueScript(10, suites + "suite t");
    }
}
