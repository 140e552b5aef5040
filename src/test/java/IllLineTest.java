/** Promise 3, with "Terms": the rules over more than one line, up to the last input that is right. */
public final class IllLineTest {
    private static final String[] OF_A_CASE = {"with p 1", "size 1", "skip x", "fails"};

    public static void main(String[] args) {
        theFirst();
        tagWithoutBoth();
        noCaseYet();
        second();
        tagTwice();
        tagNotTwice();
        moreThan8Tags();
        parameterTwice();
        moreThan4Parameters();
        valueTwice();
        moreThan40Cases();
        moreThan10Suites();
        suiteTwice();
        caseTwice();
        moreThan24TestsOfACase();
        moreThan120Tests();
        Checks.end();
    }

    private static void theFirst() {
        Checks.sentence("ILL is the first LINE that isn't so, or by which it isn't so any more");
        Checks.dueScript(0, "x\nx");
        Checks.dueScript(1, "case a\nx\ncase\nx");
        Checks.dueScript(1, "case a\ncase a\nx");
        Checks.dueScript(2, "case a\nfails\nfails\nfails");
        Checks.dueScript(0, "tag t\ncase a");
        Checks.dueScript(0, "size 1\ncase a\nsize 1");
    }

    private static void tagWithoutBoth() {
        Checks.sentence("tag where there is neither a SUITE nor a CASE");
        Checks.dueScript(0, "tag t");
        Checks.dueScript(2, "\n# case a\ntag t\ncase a");
        Checks.dueScript(-1, "case a\ntag t");
        Checks.dueScript(-1, "suite s\ntag t");
        Checks.dueScript(-1, "case a\nsuite s\ntag t");
        Checks.dueScript(-1, "suite s\nsuite u\ntag t");
    }

    private static void noCaseYet() {
        Checks.sentence("with, size, skip, fails where there is no CASE of the SUITE (or of none) yet");
        for (String line : OF_A_CASE) {
            Checks.dueScript(0, line);
            Checks.dueScript(1, "# case a\n" + line);
            Checks.dueScript(1, "suite s\n" + line);
            Checks.dueScript(2, "suite s\ntag t\n" + line);
            Checks.dueScript(2, "case a\nsuite s\n" + line);
            Checks.dueScript(3, "suite r\ncase a\nsuite s\n" + line);
            Checks.dueScript(-1, "case a\n" + line);
            Checks.dueScript(-1, "suite s\ncase a\n" + line);
            Checks.dueScript(-1, "case a\nsuite s\n\ncase a\n#\n" + line);
        }
    }

    private static void second() {
        Checks.sentence("a second size, skip or fails of a CASE");
        Checks.dueScript(2, "case a\nsize 1\nsize 1");
        Checks.dueScript(2, "case a\nsize 2\nsize 3");
        Checks.dueScript(3, "case a\nsize 9\nfails\nsize 1");
        Checks.dueScript(2, "case a\nskip x\nskip x");
        Checks.dueScript(4, "case a\nskip x\nsize 1\nfails\nskip y");
        Checks.dueScript(2, "case a\nfails\nfails");
        Checks.dueScript(3, "suite s\ncase a\nfails\nfails");
        String once = "\nsize 1\nskip x\nfails";
        Checks.dueScript(-1, "case a" + once + "\ncase b" + once + "\nsuite s\ncase a" + once);
    }

    /** Eight tags, one of them that of another place, however many of them are the suite's. */
    private static void tagTwice() {
        Checks.sentence("a TAG of a CASE twice (its SUITE's among them, or of a SUITE)");
        for (int ofSuite = 0; ofSuite <= 8; ofSuite++) {
            for (int i = 0; i < 8; i++) {
                for (int j = i + 1; j < 8; j++) {
                    String one = tags(0, ofSuite, i, j, " ");
                    String two = tags(ofSuite, 8, i, j, " ");
                    Checks.dueScript(j < ofSuite ? 1 : 3, "suite s\n" + one + "\ncase a\n" + two);
                    String lines = "suite s" + tags(0, ofSuite, i, j, "\ntag ") + "\ncase a" + tags(ofSuite, 8, i, j, "\ntag ");
                    Checks.dueScript(j < ofSuite ? 1 + j : 2 + j, lines);
                }
            }
        }
        Checks.dueScript(1, "case a\ntag b b");
        Checks.dueScript(2, "case a\ntag b\ntag b");
        Checks.dueScript(1, "suite s\ntag b b");
        Checks.dueScript(5, "suite s\ntag b\ncase a\ncase c\ntag d\ntag b");
    }

    /** The tags from one number up to another, the last of a pair being the same as the first. */
    private static String tags(int from, int to, int first, int last, String before) {
        StringBuilder line = new StringBuilder();
        for (int tag = from; tag < to; tag++) {
            line.append(before).append('t').append(tag == last ? first : tag);
        }
        return before.equals(" ") && line.length() > 0 ? "tag" + line : line.toString();
    }

    private static void tagNotTwice() {
        Checks.sentence("a TAG of a CASE twice (its SUITE's among them, or of a SUITE)");
        Checks.dueScript(-1, "case a\ntag t\ncase b\ntag t");
        Checks.dueScript(-1, "suite s\ntag t\ncase a\ntag u\ncase b\ntag u");
        Checks.dueScript(-1, "suite s\ntag t\nsuite r\ntag t\ncase a");
        Checks.dueScript(-1, "suite s\ntag t\nsuite r\ncase a\ntag t");
        Checks.dueScript(-1, "suite s\ntag t\ncase a\nsuite r\ncase a\ntag t");
        Checks.dueScript(-1, "case a\ntag t\nsuite s\ntag t\ncase a");
        Checks.dueScript(-1, "suite s\ntag s\ncase a\ntag a\nwith p p\ntag p");
    }

    private static void moreThan8Tags() {
        Checks.sentence("a TAG of a CASE twice .., or more than 8");
        for (int ofSuite = 0; ofSuite <= 10; ofSuite++) {
            Checks.dueScript(ofSuite > 8 ? 1 : -1, "suite s\n" + tags(0, ofSuite, -1, -1, " "));
            Checks.dueScript(ofSuite > 8 ? 9 : -1, "suite s" + tags(0, ofSuite, -1, -1, "\ntag "));
            Checks.dueScript(ofSuite > 8 ? 1 : -1, "case s\n" + tags(0, ofSuite, -1, -1, " "));
            Checks.dueScript(ofSuite > 8 ? 9 : -1, "case s" + tags(0, ofSuite, -1, -1, "\ntag "));
            for (int all = ofSuite; all <= 10; all++) {
                dueTags(ofSuite, all);
            }
        }
        String eight = "tag a b c d e f g h\n";
        Checks.dueScript(-1, "suite s\n" + eight + "suite t\n" + eight + "case a\ncase b\nsuite u\ncase a\n" + eight + "case b\n" + eight);
        Checks.dueScript(5, "suite s\ntag a b c d e f g\ncase a\ntag h\ncase b\ntag h i");
    }

    private static void dueTags(int ofSuite, int all) {
        String oneLine = "suite s\n" + tags(0, ofSuite, -1, -1, " ") + "\ncase a\n" + tags(ofSuite, all, -1, -1, " ");
        String lines = "suite s" + tags(0, ofSuite, -1, -1, "\ntag ") + "\ncase a" + tags(ofSuite, all, -1, -1, "\ntag ");
        Checks.dueScript(all <= 8 ? -1 : ofSuite > 8 ? 1 : 3, oneLine);
        Checks.dueScript(all <= 8 ? -1 : ofSuite > 8 ? 9 : 10, lines);
        if (all <= 8) {
            Checks.due("how many tags", all, Checks.finder(oneLine).test(0, 5));
            Checks.due("how many tags", all, Checks.finder(lines).test(0, 5));
        }
    }

    private static void parameterTwice() {
        Checks.sentence("a PARAMETER of a CASE twice");
        for (int i = 0; i < 4; i++) {
            for (int j = i + 1; j < 4; j++) {
                StringBuilder script = new StringBuilder("case a");
                for (int p = 0; p < 4; p++) {
                    script.append("\nwith p").append(p == j ? i : p).append(" v").append(p);
                }
                Checks.dueScript(j + 1, script.toString());
            }
        }
        Checks.dueScript(2, "case a\nwith p 1\nwith p 1");
        Checks.dueScript(-1, "case a\nwith p 1\ncase b\nwith p 1\nsuite s\ncase a\nwith p 1");
    }

    private static void moreThan4Parameters() {
        Checks.sentence("a PARAMETER of a CASE twice, or more than 4");
        for (int count = 0; count <= 6; count++) {
            String script = "case a" + Checks.many(count, "\nwith p", " 1");
            Checks.dueScript(count > 4 ? 5 : -1, script);
            Checks.dueScript(count > 4 ? 6 : -1, "case z\n" + script);
            if (count <= 4) {
                TestFinder x = Checks.finder(script);
                Checks.due("how many parameters", count, x.test(0, 6));
                Checks.dueCounts(x, 0, 1, 1);
            }
        }
        String four = "\nwith p 1\nwith q 1\nwith r 1\nwith s 1";
        Checks.dueScript(-1, "case a" + four + "\ncase b" + four);
        Checks.dueScript(10, "case a" + four + "\ncase b" + four + "\nwith t 1");
    }

    private static void valueTwice() {
        Checks.sentence("a VALUE of a PARAMETER twice");
        for (int count = 2; count <= 6; count++) {
            for (int i = 0; i < count; i++) {
                for (int j = i + 1; j < count; j++) {
                    StringBuilder line = new StringBuilder("with p");
                    for (int v = 0; v < count; v++) {
                        line.append(" ").append(v == j ? i : v);
                    }
                    Checks.dueScript(1, "case a\n" + line);
                }
            }
        }
        Checks.dueScript(-1, "case a\nwith p 1 2\nwith q 1 2 01 _1\nwith r 1");
        Checks.dueScript(-1, "case a\nwith p p a\ncase p\nwith a p a");
    }

    private static void moreThan40Cases() {
        Checks.sentence("more than 40 CASES");
        String forty = Checks.many(40, "case c", "\n");
        Checks.dueCounts(Checks.finder(forty), 0, 40, 40);
        Checks.dueScript(-1, forty + "tag t\nfails\nsuite s\ntag t");
        Checks.dueScript(40, forty + "case d");
        Checks.dueScript(41, forty + "suite d\ncase d");
        Checks.dueScript(41, "suite s\n" + forty + "case d");
        String four = "\ncase a\ncase b\ncase c\ncase d\n";
        Checks.dueScript(-1, Checks.many(10, "suite s", four));
        Checks.dueScript(50, Checks.many(10, "suite s", four) + "case e");
        Checks.dueScript(-1, "case z\nsuite s\n" + Checks.many(39, "case c", "\n"));
        Checks.dueScript(41, "case z\nsuite s\n" + Checks.many(39, "case c", "\n") + "case d\ncase e");
    }

    private static void moreThan10Suites() {
        Checks.sentence("more than .. 10 SUITES");
        String ten = Checks.many(10, "suite s", "\n");
        Checks.dueCounts(Checks.finder(ten), 10, 0, 0);
        Checks.dueScript(-1, ten + "tag t\ncase a");
        Checks.dueScript(10, ten + "suite t");
        Checks.dueScript(12, ten + "tag t\ncase a\nsuite t");
        Checks.dueScript(-1, Checks.many(10, "suite s", "\ncase a\n"));
        Checks.dueScript(20, Checks.many(11, "suite s", "\ncase a\n"));
        Checks.dueScript(11, "case a\n" + ten + "suite t");
    }

    private static void suiteTwice() {
        Checks.sentence("a SUITE's NAME twice");
        for (int i = 0; i < 10; i++) {
            for (int j = i + 1; j < 10; j++) {
                StringBuilder script = new StringBuilder();
                for (int s = 0; s < 10; s++) {
                    script.append("suite s").append(s == j ? i : s).append("\n");
                }
                Checks.dueScript(j, script.toString());
            }
        }
        Checks.dueScript(4, "suite s\ncase a\nsuite t\ncase a\nsuite s");
        Checks.dueScript(-1, "case s\nsuite s\ncase s\nsuite t\ncase s");
    }

    private static void caseTwice() {
        Checks.sentence("a SUITE's NAME twice, or a CASE's in its SUITE (or in none)");
        for (int i = 0; i < 40; i++) {
            for (int j = i + 1; j < 40; j++) {
                StringBuilder script = new StringBuilder();
                for (int c = 0; c < 40; c++) {
                    script.append("case c").append(c == j ? i : c).append("\n");
                }
                Checks.dueScript(j, script.toString());
                Checks.dueScript(j + 1, "suite s\n" + script);
            }
        }
        Checks.dueScript(-1, "case a\nsuite s\ncase a\nsuite t\ncase a\nsuite a\ncase a");
        Checks.dueScript(5, "case a\nsuite s\ncase a\nsuite t\ncase a\ncase a");
        Checks.dueScript(3, "case a\nsuite s\ncase a\ncase a");
        Checks.dueScript(3, "case a\nfails\n\ncase a");
    }

    /** Every choice of up to four parameters with one to six values each. */
    private static void moreThan24TestsOfACase() {
        Checks.sentence("TESTS of a CASE (with what is told so far) more than 24");
        for (int choice = 0; choice < 7 * 7 * 7 * 7; choice++) {
            int[] values = {choice % 7, choice / 7 % 7, choice / 49 % 7, choice / 343};
            StringBuilder script = new StringBuilder("case a");
            int tests = 1;
            int ill = -1;
            int line = 0;
            for (int p = 0; p < 4; p++) {
                if (values[p] > 0) {
                    script.append("\nwith p").append(p).append(Checks.many(values[p], " ", ""));
                    line++;
                    tests *= values[p];
                    ill = ill == -1 && tests > 24 ? line : ill;
                }
            }
            TestFinder x = new TestFinder();
            Checks.due("script() of\n" + script + "\n", ill, Checks.script(x, script.toString()));
            Checks.due("its tests", ill == -1 ? tests : 0, x.count(2));
        }
        Checks.dueScript(2, "case a\nwith p 1 2 3 4 5\nwith q 1 2 3 4 5\ncase b");
        Checks.dueScript(-1, "case a\nwith p 1 2 3 4\nwith q 1 2 3 4 5 6\nwith r 1\nwith s 1\nfails\ntag t");
    }

    /** Ninety-six tests, then a case and another: about as many as there may be. */
    private static void moreThan120Tests() {
        Checks.sentence("TESTS .. of all more than 120");
        String before = Checks.many(4, "case c", "\nwith p 1 2 3 4 5 6\nwith q 1 2 3 4\n");
        for (int p = 1; p <= 6; p++) {
            for (int q = 1; p * q <= 24 && q <= 6; q++) {
                for (int r = 1; r <= 6; r++) {
                    String script = before + "case d\nwith p" + Checks.many(p, " ", "") + "\nwith q" + Checks.many(q, " ", "")
                            + "\ncase e\nwith r" + Checks.many(r, " ", "") + "\nfails";
                    int ill = 96 + p * q + 1 > 120 ? 15 : 96 + p * q + r > 120 ? 16 : -1;
                    TestFinder x = new TestFinder();
                    Checks.due("script() of\n" + script + "\n", ill, Checks.script(x, script));
                    Checks.due("its tests", ill == -1 ? 96 + p * q + r : 0, x.count(2));
                }
            }
        }
        String almost = before + "case d\nwith p 1 2 3 4 5\nwith q 1 2 3 4\ncase e\nwith p 1 2 3\n";
        Checks.dueCounts(Checks.finder(almost), 0, 6, 119);
        Checks.dueCounts(Checks.finder(almost + "case f"), 0, 7, 120);
        Checks.dueCounts(Checks.finder(almost + "suite s\ncase f\nwith p 1"), 1, 7, 120);
        Checks.dueScript(18, almost + "case f\ncase g");
        Checks.dueScript(18, almost + "case f\nwith p 1 2");
        String full = Checks.fullScript();
        Checks.dueCounts(Checks.finder(full + "with r 1\ntag t\nsuite s"), 1, 5, 120);
        Checks.dueScript(15, full + "case d");
        Checks.dueScript(16, full + "suite s\ncase d");
        String threes = Checks.many(39, "case c", "\nwith p 1 2 3\n");
        Checks.dueCounts(Checks.finder(threes + "case d\nwith p 1 2 3"), 0, 40, 120);
        Checks.dueScript(79, threes + "case d\nwith p 1 2 3 4");
        Checks.dueScript(80, threes + "case d\nwith p 1 2 3\nwith q 1 2");
        Checks.dueScript(-1, threes + "case d\nwith p 1\nwith q 1 2 3\nwith r 1");
    }
}
