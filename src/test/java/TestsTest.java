/** Promises 5 to 8: what is told of a test, its name, its reason, and how it is found by name. */
public final class TestsTest {
    private static final int[] NO_TESTS = {-1, 120, Integer.MAX_VALUE, Integer.MIN_VALUE};

    private static final String SCRIPT = "case one\n# no\nsuite net\ntag slow\ncase get\ntag io fast\n"
            + "with host a b\nwith port 80 443 8080\nsize 3\n  skip  it  # hangs! \ncase put\nfails\n"
            + "suite empty\ntag x\n\nsuite disk\ncase put\nwith v _\ncase get\nfails\nskip y";

    public static void main(String[] args) {
        told();
        names();
        longestName();
        reasons();
        found();
        Checks.end();
    }

    private static void dueTold(TestFinder x, int test, int... want) {
        for (int what = 0; what < want.length; what++) {
            Checks.due("test(" + test + ", " + what + ")", want[what], x.test(test, what));
        }
    }

    private static void told() {
        TestFinder x = Checks.finder(SCRIPT);
        dueTold(x, 0, 0, -1, 1, 0, 0, 0, 0, 3, 0);
        for (int test = 1; test <= 6; test++) {
            dueTold(x, test, 1, 0, 3, 1, 0, 3, 2);
            Checks.due("line", 4, x.test(test, 8));
        }
        dueTold(x, 7, 2, 0, 1, 0, 1, 1, 0, 7, 10);
        dueTold(x, 8, 3, 2, 1, 0, 0, 0, 1, 13, 16);
        dueTold(x, 9, 4, 2, 1, 1, 1, 0, 0, 8, 18);
        for (int what = 0; what <= 8; what++) {
            for (int test : NO_TESTS) {
                Checks.due("test(" + test + ", " + what + ")", -1, x.test(test, what));
            }
            Checks.due("test(10, " + what + ")", -1, x.test(10, what));
        }
        for (int what : new int[] {-1, 9, Integer.MAX_VALUE, Integer.MIN_VALUE}) {
            Checks.due("test(0, " + what + ")", -1, x.test(0, what));
        }
    }

    private static void names() {
        TestFinder x = Checks.finder(SCRIPT);
        String[] want = {"one", "net.get[host=a,port=80]", "net.get[host=a,port=443]",
            "net.get[host=a,port=8080]", "net.get[host=b,port=80]", "net.get[host=b,port=443]",
            "net.get[host=b,port=8080]", "net.put", "disk.put[v=_]", "disk.get"};
        Checks.due("tests", want.length, x.count(2));
        for (int test = 0; test < want.length; test++) {
            Checks.due("name", want[test], Checks.name(x, test));
            Checks.due("its length", want[test].length(), x.test(test, 7));
            Checks.due("letter before it", -1, x.letter(test, -1));
            Checks.due("letter behind it", -1, x.letter(test, want[test].length()));
            Checks.due("letter far before it", -1, x.letter(test, Integer.MIN_VALUE));
            Checks.due("letter far behind it", -1, x.letter(test, Integer.MAX_VALUE));
        }
        for (int test : NO_TESTS) {
            Checks.due("letter(" + test + ", 0)", -1, x.letter(test, 0));
        }
        Checks.due("letter(10, 0)", -1, x.letter(10, 0));

        TestFinder y = Checks.finder("case a\nwith p 1 2\nwith q 3\nwith r 4 5 6\nwith s 7 8");
        Checks.due("first", "a[p=1,q=3,r=4,s=7]", Checks.name(y, 0));
        Checks.due("second", "a[p=1,q=3,r=4,s=8]", Checks.name(y, 1));
        Checks.due("third", "a[p=1,q=3,r=5,s=7]", Checks.name(y, 2));
        Checks.due("seventh", "a[p=2,q=3,r=4,s=7]", Checks.name(y, 6));
        Checks.due("last", "a[p=2,q=3,r=6,s=8]", Checks.name(y, 11));
    }

    private static void longestName() {
        String script = "suite zzzzzzzzzzzz\ncase z___________\nwith z99999999999 ____________\n"
                + "with zzzzzzzzzzz1 999999999999\nwith abcdefghijkl 0aaaaaaaaaaa\nwith mnopqrstuvwx yz0123456789";
        String name = "zzzzzzzzzzzz.z___________[z99999999999=____________,zzzzzzzzzzz1=999999999999,"
                + "abcdefghijkl=0aaaaaaaaaaa,mnopqrstuvwx=yz0123456789]";
        TestFinder x = Checks.finder(script);
        Checks.due("the longest name", name, Checks.name(x, 0));
        Checks.due("its length", 130, x.test(0, 7));
        Checks.due("find", 0, Checks.find(x, name));
        Checks.due("without its end", -1, Checks.find(x, name.substring(0, 129)));
        Checks.due("with more", -1, Checks.find(x, name + "]"));
    }

    private static void reasons() {
        TestFinder x = Checks.finder(SCRIPT);
        Checks.due("none", "", Checks.reason(x, 0));
        for (int test = 1; test <= 6; test++) {
            Checks.due("reason", "it  # hangs!", Checks.reason(x, test));
        }
        Checks.due("none", "", Checks.reason(x, 7));
        Checks.due("none", "", Checks.reason(x, 8));
        Checks.due("at the script's end", "y", Checks.reason(x, 9));
        Checks.due("before it", -1, x.reason(1, -1));
        Checks.due("behind it", -1, x.reason(1, 12));
        Checks.due("far before it", -1, x.reason(1, Integer.MIN_VALUE));
        Checks.due("far behind it", -1, x.reason(1, Integer.MAX_VALUE));
        Checks.due("no such", -1, x.reason(10, 0));
        for (int test : NO_TESTS) {
            Checks.due("reason(" + test + ", 0)", -1, x.reason(test, 0));
        }
        Checks.due("more on the tape", true, x.text(Checks.pack("########")));
        Checks.due("the reason stays", "it  # hangs!", Checks.reason(x, 1));
        Checks.due("a script without", -1, Checks.script(x, "\ncase one\ncase get"));
        Checks.due("none is left", -1, x.reason(1, 0));
    }

    private static void found() {
        TestFinder x = Checks.finder(SCRIPT);
        for (int test = 0; test < x.count(2); test++) {
            Checks.due("find", test, Checks.find(x, Checks.name(x, test)));
        }
        String[] none = {"get", "on", "onee", "net", "net.", "net.get", "net.get[host=a]", "net.one",
            "net.get[host=a,port=81]", "net.get[port=80,host=a]", "net.get[host=a,port=80", " one",
            "one ", "put", "net.get[host=a,port=80]]", "ONE", "one\n", ".one", "ane", "one[]", "empty.put"};
        for (String name : none) {
            Checks.due("find of " + name, -1, Checks.find(x, name));
        }
        Checks.due("find of nothing", -1, x.find());
        Checks.due("the tape is empty behind one found", 0, Checks.find(x, "one"));
        Checks.due("find", 0, Checks.find(x, "one"));
        Checks.due("find of none", -1, Checks.find(x, "on"));
        Checks.due("the tape is empty behind none too", -1, Checks.find(x, "e"));
    }
}
