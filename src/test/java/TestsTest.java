import java.util.ArrayList;
import java.util.List;

/** Promises 5 to 8: what is told of a test, its name, its reason, and how it is found by name. */
public final class TestsTest {
    private static final String SCRIPT = "case one\n# no\nsuite net\ntag slow\ncase get\ntag io fast\n"
            + "with host a b\nwith port 80 443 8080\nsize 3\n  skip  it  # hangs! \ncase put\nfails\n"
            + "suite empty\ntag x\n\nsuite disk\ncase put\nwith v _\ncase get\nfails\nskip y";

    private static final String[] NAMES = {"one", "net.get[host=a,port=80]", "net.get[host=a,port=443]",
        "net.get[host=a,port=8080]", "net.get[host=b,port=80]", "net.get[host=b,port=443]",
        "net.get[host=b,port=8080]", "net.put", "disk.put[v=_]", "disk.get"};

    private static final String LONGEST_SCRIPT = "suite zzzzzzzzzzzz\ncase z___________\nwith z99999999999 ____________\n"
            + "with zzzzzzzzzzz1 999999999999\nwith abcdefghijkl 0aaaaaaaaaaa\nwith mnopqrstuvwx yz0123456789";

    private static final String LONGEST_NAME = "zzzzzzzzzzzz.z___________[z99999999999=____________,"
            + "zzzzzzzzzzz1=999999999999,abcdefghijkl=0aaaaaaaaaaa,mnopqrstuvwx=yz0123456789]";

    public static void main(String[] args) {
        told();
        leastAndMostTold();
        anotherTestOrWhat();
        noTestBehindTheLast();
        order();
        orderOfAllTables();
        names();
        namesStay();
        letters();
        longestName();
        reasons();
        reasonsOfOthers();
        found();
        notFound();
        theTapeIsEmptyThen();
        findChangesNothingElse();
        Checks.end();
    }

    private static void told() {
        Checks.sentence("Of a TEST, by its number: 0 its CASE's number, 1 its SUITE's (NONE), 2 its size, ..");
        TestFinder x = Checks.finder(SCRIPT);
        Checks.dueTold(x, 0, 0, -1, 1, 0, 0, 0, 0, 3, 0);
        for (int test = 1; test <= 6; test++) {
            Checks.dueTold(x, test, 1, 0, 3, 1, 0, 3, 2, NAMES[test].length(), 4);
        }
        Checks.dueTold(x, 7, 2, 0, 1, 0, 1, 1, 0, 7, 10);
        Checks.dueTold(x, 8, 3, 2, 1, 0, 0, 0, 1, 13, 16);
        Checks.dueTold(x, 9, 4, 2, 1, 1, 1, 0, 0, 8, 18);
    }

    private static void leastAndMostTold() {
        Checks.sentence("Of a TEST, by its number: 0 its CASE's number, 1 its SUITE's (NONE), 2 its size, ..");
        Checks.dueTold(Checks.finder("case a"), 0, 0, -1, 1, 0, 0, 0, 0, 1, 0, -1);
        Checks.dueTold(Checks.finder("\nsuite s\ncase a"), 0, 0, 0, 1, 0, 0, 0, 0, 3, 2, -1);
        String most = Checks.many(39, "case c", "\n") + Checks.many(10, "suite s", "\n") + "\n".repeat(570)
                + "case d\ntag a b c d e f g h\nsize 9\nskip x\nfails\nwith p 1\nwith q 1\nwith r 1\nwith s 1";
        Checks.dueTold(Checks.finder(most), 39, 39, 9, 9, 1, 1, 8, 4, 21, 619, -1);
        TestFinder full = Checks.finder(Checks.fullScript());
        Checks.dueTold(full, 0, 0, -1, 1, 0, 0, 0, 2, 11, 0);
        Checks.dueTold(full, 23, 0, -1, 1, 0, 0, 0, 2, 11, 0);
        Checks.dueTold(full, 24, 1, -1, 1, 0, 0, 0, 2, 11, 3);
        Checks.dueTold(full, 119, 4, -1, 1, 0, 0, 0, 2, 11, 12);
    }

    private static void anotherTestOrWhat() {
        Checks.sentence("NONE if there is none such, or for another what");
        TestFinder x = Checks.finder(SCRIPT);
        for (int far : Checks.FAR) {
            Checks.due("test(" + far + ", 2)", -1, x.test(far, 2));
            Checks.due("test(0, " + far + ")", -1, x.test(0, far));
            Checks.due("test(" + far + ", " + far + ")", -1, x.test(far, far));
        }
        for (int what : new int[] {9, 10, 16, 256, 65536}) {
            Checks.due("test(0, " + what + ")", -1, x.test(0, what));
            Checks.due("test(9, " + what + ")", -1, x.test(9, what));
        }
        for (int what = 0; what <= 8; what++) {
            Checks.due("test(-1, " + what + ")", -1, x.test(-1, what));
            Checks.due("test(10, " + what + ")", -1, x.test(10, what));
            Checks.due("test(120, " + what + ")", -1, x.test(120, what));
        }
    }

    /** Also if there are as many as there may be, or if there were more before. */
    private static void noTestBehindTheLast() {
        Checks.sentence("NONE if there is none such");
        dueNoTest(Checks.finder(Checks.fullScript()), 120);
        TestFinder fewer = Checks.finder(Checks.many(40, "case c", "\nskip x\n"));
        Checks.due("a shorter script", -1, Checks.script(fewer, "case a\nwith p 1 2\nskip y"));
        dueNoTest(fewer, 2);
        TestFinder ill = Checks.finder(Checks.many(40, "case c", "\nskip x\n"));
        Checks.due("an ill script", 1, Checks.script(ill, "case a\nx"));
        dueNoTest(ill, 0);
    }

    private static void dueNoTest(TestFinder x, int first) {
        for (int test : new int[] {-1, first, first + 1, 120, 121}) {
            for (int what = 0; what <= 8; what++) {
                Checks.due("test(" + test + ", " + what + ")", -1, x.test(test, what));
            }
            Checks.due("letter(" + test + ", 0)", -1, x.letter(test, 0));
            Checks.due("reason(" + test + ", 0)", -1, x.reason(test, 0));
            Checks.due("judge(" + test + ", true)", -1, x.judge(test, true));
            Checks.due("passes(" + test + ")", false, x.passes(test));
        }
        if (first > 0) {
            Checks.due("the last there is", 1, x.test(first - 1, 2));
            Checks.due("passes", true, x.passes(first - 1));
        }
    }

    private static void order() {
        Checks.sentence("in order: the VALUES in their order, the last PARAMETER's fastest");
        TestFinder y = Checks.finder("case a\nwith p 2 1\nwith q 3\nwith r 4 6 5\nwith s 8 7");
        Checks.due("first", "a[p=2,q=3,r=4,s=8]", Checks.name(y, 0));
        Checks.due("second", "a[p=2,q=3,r=4,s=7]", Checks.name(y, 1));
        Checks.due("third", "a[p=2,q=3,r=6,s=8]", Checks.name(y, 2));
        Checks.due("seventh", "a[p=1,q=3,r=4,s=8]", Checks.name(y, 6));
        Checks.due("last", "a[p=1,q=3,r=5,s=7]", Checks.name(y, 11));
    }

    /** Every table of up to four parameters that has 24 tests or fewer, by the tests' names. */
    private static void orderOfAllTables() {
        Checks.sentence("one for each way to give its PARAMETERS a VALUE each (one, without PARAMETERS)");
        int choices = 1;
        for (int count = 0; count <= 4; count++) {
            for (int choice = 0; choice < choices; choice++) {
                dueTable(new int[] {1 + choice % 6, 1 + choice / 6 % 6, 1 + choice / 36 % 6, 1 + choice / 216}, count);
            }
            choices *= 6;
        }
    }

    private static void dueTable(int[] sizes, int count) {
        List<String> names = new ArrayList<>(List.of(""));
        StringBuilder script = new StringBuilder("case a");
        for (int p = 0; p < count; p++) {
            script.append("\nwith p").append(p).append(Checks.many(sizes[p], " v", ""));
            List<String> longer = new ArrayList<>();
            for (String name : names) {
                for (int v = 0; v < sizes[p]; v++) {
                    longer.add(name + (p == 0 ? "" : ",") + "p" + p + "=v" + v);
                }
            }
            names = longer;
        }
        if (names.size() > 24) {
            return;
        }
        for (int test = 0; test < names.size(); test++) {
            TestFinder x = Checks.finder("case z\n" + script + "\ncase b");
            Checks.due("tests", names.size() + 2, x.count(2));
            String want = count == 0 ? "a" : "a[" + names.get(test) + "]";
            Checks.due("its name", want, Checks.name(x, 1 + test));
            Checks.due("how long it is", want.length(), x.test(1 + test, 7));
            Checks.due("by its name", 1 + test, Checks.find(x, want));
        }
    }

    private static void names() {
        Checks.sentence("The NAME of a TEST: SUITE and . (if it is in one), the CASE's NAME, and, with PARAMETERS, [ ..");
        TestFinder x = Checks.finder(SCRIPT);
        Checks.due("tests", NAMES.length, x.count(2));
        for (int test = 0; test < NAMES.length; test++) {
            Checks.due("name", NAMES[test], Checks.name(x, test));
            Checks.due("its length", NAMES[test].length(), x.test(test, 7));
        }
    }

    private static void namesStay() {
        Checks.sentence("names that stay the same whatever else comes");
        String before = "suite aa\ntag slow t\ncase get\nwith host b a\nsize 9\n";
        String behind = "\ncase put\nfails\nsuite bb\ncase get\nwith port 80\n";
        String own = "suite net\ncase get\nwith host a b";
        String[] comes = {own, before + own, own + behind, before + own + behind,
            own + "\ntag io\nskip why\nsize 2\nfails", "# x\n\n" + own.replace("net\n", "net\ntag slow\n\n"),
            own.replace("net\n", "net\ncase first\nwith host a b c\n"), own + " c"};
        TestFinder x = new TestFinder();
        for (String script : comes) {
            Checks.due("script", -1, Checks.script(x, script));
            int first = Checks.find(x, "net.get[host=a]");
            Checks.due("found in\n" + script, true, first != -1);
            Checks.due("the other", first + 1, Checks.find(x, "net.get[host=b]"));
        }
    }

    private static void letters() {
        Checks.sentence("A character of a TEST's NAME; NONE if there is none");
        TestFinder x = Checks.finder(SCRIPT);
        for (int test = 0; test < NAMES.length; test++) {
            int length = NAMES[test].length();
            Checks.due("the first", NAMES[test].charAt(0), x.letter(test, 0));
            Checks.due("the last", NAMES[test].charAt(length - 1), x.letter(test, length - 1));
            Checks.due("behind the last", -1, x.letter(test, length));
            for (int far : Checks.FAR) {
                Checks.due("letter(" + test + ", " + far + ")", -1, x.letter(test, far));
            }
        }
        TestFinder y = Checks.finder(SCRIPT);
        for (int far : Checks.FAR) {
            Checks.due("letter(" + far + ", 0)", -1, y.letter(far, 0));
            Checks.due("letter(" + far + ", " + far + ")", -1, y.letter(far, far));
        }
        Checks.due("letter(10, 0)", -1, y.letter(10, 0));
        Checks.due("a long one before it", ']', y.letter(6, 24));
        Checks.due("nothing is left of that", -1, y.letter(7, 7));
    }

    private static void longestName() {
        Checks.sentence("7 how long its NAME is");
        TestFinder x = Checks.finder(LONGEST_SCRIPT);
        Checks.due("the longest name", LONGEST_NAME, Checks.name(x, 0));
        Checks.due("its length", 130, x.test(0, 7));
        Checks.due("its last letter", ']', x.letter(0, 129));
        Checks.due("behind it", -1, x.letter(0, 130));
        Checks.due("find", 0, Checks.find(x, LONGEST_NAME));
        Checks.due("without its end", -1, Checks.find(x, LONGEST_NAME.substring(0, 129)));
        Checks.due("with more", -1, Checks.find(x, LONGEST_NAME + "]"));
        Checks.due("the shortest", 1, Checks.finder("case a").test(0, 7));
    }

    private static void reasons() {
        Checks.sentence("A character of a TEST's REASON; NONE if there is none");
        TestFinder x = Checks.finder(SCRIPT);
        for (int test = 1; test <= 6; test++) {
            Checks.due("reason", "it  # hangs!", Checks.reason(x, test));
            Checks.due("its last", '!', x.reason(test, 11));
            Checks.due("behind it", -1, x.reason(test, 12));
            Checks.due("before it", -1, x.reason(test, -1));
        }
        Checks.due("at the script's end", "y", Checks.reason(x, 9));
        Checks.due("behind it", -1, x.reason(9, 1));
        for (int far : Checks.FAR) {
            Checks.due("reason(1, " + far + ")", -1, x.reason(1, far));
            Checks.due("reason(9, " + far + ")", -1, x.reason(9, far));
            Checks.due("reason(" + far + ", 0)", -1, x.reason(far, 0));
            Checks.due("reason(" + far + ", " + far + ")", -1, x.reason(far, far));
        }
        Checks.due("reason(10, 0)", -1, x.reason(10, 0));
    }

    private static void reasonsOfOthers() {
        Checks.sentence("A character of a TEST's REASON; NONE if there is none");
        TestFinder x = Checks.finder(SCRIPT);
        for (int test : new int[] {0, 7, 8}) {
            for (int k = -1; k <= 2; k++) {
                Checks.due("of one that is not skipped", -1, x.reason(test, k));
            }
        }
        Checks.put(x, "########".repeat(20));
        Checks.due("the reason stays, whatever comes onto the tape", "it  # hangs!", Checks.reason(x, 1));
        Checks.due("a filter", 120, x.filter());
        Checks.due("the reason stays", "it  # hangs!", Checks.reason(x, 1));
        Checks.due("a script without", -1, Checks.script(x, "\ncase one\ncase get"));
        Checks.due("none is left", -1, x.reason(1, 0));
    }

    private static void found() {
        Checks.sentence("The number of the TEST of which the TAPE is the NAME");
        TestFinder x = Checks.finder(SCRIPT);
        for (int test = 0; test < NAMES.length; test++) {
            Checks.due("find of " + NAMES[test], test, Checks.find(x, NAMES[test]));
        }
        TestFinder full = Checks.finder(Checks.fullScript());
        Checks.due("the first of 120", 0, Checks.find(full, "c0[p=1,q=1]"));
        Checks.due("the last of 120", 119, Checks.find(full, "c4[p=6,q=4]"));
        TestFinder parts = new TestFinder();
        Checks.due("script", -1, Checks.script(parts, "suite s\ncase a"));
        Checks.due("in parts, zeros between", true, parts.text(0x7300002e00L) && parts.text(0) && parts.text(0x61L));
        Checks.due("find", 0, parts.find());
    }

    private static void notFound() {
        Checks.sentence("NONE if there is none such");
        String[] none = {"get", "on", "onee", "net", "net.", "net.get", "net.get[host=a]", "net.one",
            "net.get[host=a,port=81]", "net.get[port=80,host=a]", "net.get[host=a,port=80", " one",
            "one ", "put", "net.get[host=a,port=80]]", "ONE", "one\n", ".one", "ane", "one[]", "empty.put",
            "net.get[host=a, port=80]", "net.get[host=a,port=80,]", "net.get[]", "disk.put", "net,put"};
        for (String name : none) {
            Checks.due("find of " + name, -1, Checks.find(Checks.finder(SCRIPT), name));
        }
        Checks.due("find of nothing", -1, Checks.finder(SCRIPT).find());
        Checks.due("find of 1200 characters", -1, Checks.find(Checks.finder(SCRIPT), "one".repeat(400)));
        Checks.due("without tests", -1, Checks.find(new TestFinder(), "one"));
        for (int place = 0; place < LONGEST_NAME.length(); place++) {
            String other = LONGEST_NAME.substring(0, place) + "-" + LONGEST_NAME.substring(place + 1);
            Checks.due("find of " + other, -1, Checks.find(Checks.finder(LONGEST_SCRIPT), other));
        }
    }

    private static void theTapeIsEmptyThen() {
        Checks.sentence("The number of the TEST of which the TAPE is the NAME (it is empty then)");
        TestFinder x = Checks.finder(SCRIPT);
        Checks.due("find", 0, Checks.find(x, "one"));
        Checks.due("find of nothing", -1, x.find());
        Checks.due("find again", 0, Checks.find(x, "one"));
        Checks.due("filter of nothing", 0, x.filter());
        Checks.due("find of none", -1, Checks.find(x, "on"));
        Checks.due("of what would make it one", -1, Checks.find(x, "e"));
        Checks.due("script of nothing", -1, x.script());
        Checks.dueCounts(x, 0, 0, 0);
    }

    private static void findChangesNothingElse() {
        Checks.sentence("The number of the TEST of which the TAPE is the NAME (it is empty then)");
        TestFinder x = Checks.finder(SCRIPT, "?");
        Checks.due("find", 0, Checks.find(x, "one"));
        Checks.due("find of none", -1, Checks.find(x, "two"));
        Checks.due("the filter", "0111111001", Checks.passing(x));
        Checks.dueCounts(x, 3, 5, 10);
    }
}
