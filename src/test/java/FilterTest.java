/** Promises 9 to 11: which filters are right, where others are not, and which tests pass. */
public final class FilterTest {
    private static final String SCRIPT = "case one\nsize 2\ncase two\ntag t1\nskip x\nsuite net\ntag slow\n"
            + "case one\nwith p 1 2\nwith q 2 1\ntag io\nfails\ncase two\nsize 9\nskip y\nfails\nsuite one\ncase net\nwith p 2";

    public static void main(String[] args) {
        atoms();
        operators();
        blanks();
        stays();
        manyOnOneObject();
        nothingBehindTheEndCounts();
        illPlaces();
        open();
        length();
        noSuchTests();
        Checks.end();
    }

    private static void duePassing(String filter, String want) {
        TestFinder x = Checks.finder(SCRIPT);
        Checks.due("filter() of " + filter, -1, Checks.filter(x, filter));
        Checks.due("what passes " + filter, want, Checks.passing(x));
        Checks.due("passing() of " + filter, want.replace("0", "").length(), x.passing());
    }

    /** The tests: one, two, four of net.one (p q: 12 11 22 21), net.two, one.net[p=2]. */
    private static void atoms() {
        Checks.due("without a filter", "11111111", Checks.passing(Checks.finder(SCRIPT)));
        Checks.due("without a filter", 8, Checks.finder(SCRIPT).passing());
        duePassing("t1", "01000000");
        duePassing("slow", "00111110");
        duePassing("io", "00111100");
        duePassing("net", "00000000");
        duePassing("@net", "00111110");
        duePassing("@one", "00000001");
        duePassing("@two", "00000000");
        duePassing("=one", "10111100");
        duePassing("=two", "01000010");
        duePassing("=net", "00000001");
        duePassing("=slow", "00000000");
        duePassing("p:1", "00110000");
        duePassing("p:2", "00001101");
        duePassing("q:1", "00010100");
        duePassing("q:2", "00101000");
        duePassing("p:3", "00000000");
        duePassing("p:p", "00000000");
        duePassing("r:1", "00000000");
        duePassing("<1", "00000000");
        duePassing("<2", "01111101");
        duePassing("<3", "11111101");
        duePassing("<9", "11111101");
        duePassing("?", "01000010");
        duePassing("~", "00111110");
    }

    private static void operators() {
        duePassing("!slow", "11000001");
        duePassing("!!slow", "00111110");
        duePassing("!!!slow", "11000001");
        duePassing("slow&p:1", "00110000");
        duePassing("?|p:1", "01110010");
        duePassing("?|slow&p:1", "01110010");
        duePassing("p:1&slow|?", "01110010");
        duePassing("(?|slow)&p:1", "00110000");
        duePassing("p:1&(?|slow)", "00110000");
        duePassing("!p:1&slow", "00001110");
        duePassing("!(p:1&slow)", "11001111");
        duePassing("!(p:1|slow)", "11000001");
        duePassing("!?|?", "11111111");
        duePassing("!?&?", "00000000");
        duePassing("p:1&q:2|p:2&q:1", "00100100");
        duePassing("p:1&q:2&!slow|~&?|=net", "00000011");
        duePassing("(((t1)))", "01000000");
        duePassing("!(!t1)", "01000000");
        duePassing("t1|" + "t1|".repeat(38) + "io", "01111100");
        duePassing("~|".repeat(59) + "?", "01111110");
        duePassing("~&".repeat(59) + "?", "00000010");
    }

    private static void blanks() {
        duePassing("  p  :  1  ", "00110000");
        duePassing(" @  net & ! ( < 2 | ~ ) ", "00000000");
        duePassing("! = one", "01000011");
        duePassing(" ( ? ) ", "01000010");
        duePassing("p:1 & slow | ?", "01110010");
    }

    private static void stays() {
        TestFinder x = Checks.finder(SCRIPT);
        Checks.due("filter", -1, Checks.filter(x, "slow"));
        Checks.due("an ill one", 1, Checks.filter(x, "?)"));
        Checks.due("the first stays", "00111110", Checks.passing(x));
        Checks.due("an ill one at its end", 8, Checks.filter(x, "t1 | ? &"));
        Checks.due("one of no characters", 0, x.filter());
        Checks.due("one too long", 120, Checks.filter(x, " ".repeat(121)));
        Checks.due("the first stays", "00111110", Checks.passing(x));
        Checks.due("another", -1, Checks.filter(x, "?"));
        Checks.due("it goes", "01000010", Checks.passing(x));
        Checks.due("a third", -1, Checks.filter(x, "t1"));
        Checks.due("it goes too", "01000000", Checks.passing(x));
        Checks.due("a script", -1, Checks.script(x, SCRIPT));
        Checks.due("the filter goes", "11111111", Checks.passing(x));

        TestFinder y = new TestFinder();
        Checks.due("without tests", -1, Checks.filter(y, "?"));
        Checks.due("none pass", 0, y.passing());
        Checks.due("a script", -1, Checks.script(y, "case a"));
        Checks.due("the filter goes", 1, y.passing());
    }

    private static void manyOnOneObject() {
        TestFinder x = Checks.finder(SCRIPT);
        for (int i = 0; i < 36; i++) {
            Checks.due("filter", -1, Checks.filter(x, "(t1|?)&!~"));
            Checks.due("passing", 1, x.passing());
            Checks.due("an ill filter", 2, Checks.filter(x, "~|"));
            Checks.due("filter", -1, Checks.filter(x, "!?"));
            Checks.due("passing", 6, x.passing());
            Checks.due("filter", -1, Checks.filter(x, "~"));
            Checks.due("passing", 5, x.passing());
        }
    }

    private static void nothingBehindTheEndCounts() {
        TestFinder x = new TestFinder();
        for (String end : new String[] {"|", "&", "(", "!", "@", "=", "<", "a:"}) {
            String whole = end.equals("<") ? "<1" : end.equals("(") ? "(a)" : end + "a";
            Checks.due("a whole one", end.length() < 2 && "|&".contains(end) ? 0 : -1, Checks.filter(x, whole));
            Checks.due("what stood behind does not count", "|&".contains(end) ? 0 : end.length(), Checks.filter(x, end));
        }
    }

    private static void illPlaces() {
        Checks.dueFilter(0, "");
        Checks.dueFilter(3, "   ");
        for (String first : new String[] {")", "&", "|", ":", "A", "0", "_", "#", "\n", ".", "[", "-"}) {
            Checks.dueFilter(0, first);
            Checks.dueFilter(2, "! " + first);
            Checks.dueFilter(1, "(" + first);
            Checks.dueFilter(3, "a& " + first);
            Checks.dueFilter(2, "a|" + first);
        }
        for (String behind : new String[] {"(", "!", "@", "=", "<", "?", "~", "a", "1", "_", "#", "\n"}) {
            Checks.dueFilter(2, "a " + behind);
            Checks.dueFilter(1, "?" + behind);
            Checks.dueFilter(2, "~ " + behind);
            Checks.dueFilter(2, "<1" + behind);
            Checks.dueFilter(3, "(a)" + behind);
            Checks.dueFilter(5, "(a:b " + behind);
            Checks.dueFilter(3, "@a " + behind);
        }
        for (String name : new String[] {" ", "1", "_", "A", "@", "=", ":", "(", "!", "&", ")", "\n"}) {
            Checks.dueFilter(name.equals(" ") ? 2 : 1, "@" + name);
            Checks.dueFilter(name.equals(" ") ? 2 : 1, "=" + name);
        }
        for (String value : new String[] {" ", "A", "@", "=", ":", "(", "!", "&", ")", "\n", "?"}) {
            Checks.dueFilter(value.equals(" ") ? 3 : 2, "a:" + value);
        }
        for (String number : new String[] {" ", "0", "a", "_", ":", "/", "\n"}) {
            Checks.dueFilter(number.equals(" ") ? 2 : 1, "<" + number);
        }
        Checks.dueFilter(-1, "a:_1b");
        Checks.dueFilter(-1, "a:0");
        Checks.dueFilter(2, "<10");
        Checks.dueFilter(2, "@a:1");
        Checks.dueFilter(2, "=a:1");
        Checks.dueFilter(3, "a:b:c");
        Checks.dueFilter(2, "<1:1");
        Checks.dueFilter(1, "a)");
        Checks.dueFilter(3, "(a))");
        Checks.dueFilter(2, "((");
        Checks.dueFilter(3, "((a");
        Checks.dueFilter(4, "((a)");
        Checks.dueFilter(1, "()");
        Checks.dueFilter(4, "(a& )");
        Checks.dueFilter(2, "!a!");
        Checks.dueFilter(1, "a\n");
        Checks.dueFilter(-1, "abcdefghijkl");
        Checks.dueFilter(12, "abcdefghijklm");
        Checks.dueFilter(13, "@abcdefghijklm");
        Checks.dueFilter(13, "=abcdefghijkl_");
        Checks.dueFilter(-1, "a:0bcdefghijkl");
        Checks.dueFilter(14, "a:0bcdefghijklm");
        Checks.dueFilter(-1, "abcdefghijkl:0");
        Checks.dueFilter(12, "abcdefghijklm:0");
        Checks.dueFilter(13, "abcdefghijkl m");
    }

    private static void open() {
        Checks.dueFilter(-1, "!".repeat(12) + "a");
        Checks.dueFilter(12, "!".repeat(13) + "a");
        Checks.dueFilter(-1, "(".repeat(12) + "a" + ")".repeat(12));
        Checks.dueFilter(12, "(".repeat(13) + "a" + ")".repeat(13));
        Checks.dueFilter(-1, "!(".repeat(6) + "a" + ")".repeat(6));
        Checks.dueFilter(12, "!(".repeat(6) + "!a" + ")".repeat(6));
        Checks.dueFilter(12, "(!".repeat(6) + "(a)" + ")".repeat(6));
        Checks.dueFilter(-1, "!".repeat(12) + "a&" + "!".repeat(12) + "b|" + "(".repeat(12) + "c" + ")".repeat(12));
        Checks.dueFilter(26, "!".repeat(12) + "a&" + "!".repeat(13) + "b");
        Checks.dueFilter(-1, "(".repeat(11) + "!a&!b|(c)" + ")".repeat(11) + "&" + "!".repeat(12) + "a");
        Checks.dueFilter(12, "(".repeat(11) + "!!a" + ")".repeat(11));
        Checks.dueFilter(15, "(".repeat(11) + "!a&((b))" + ")".repeat(11));
        Checks.dueFilter(-1, "!(" + "!".repeat(10) + "a)&" + "!".repeat(12) + "b");
        Checks.dueFilter(20, "! ".repeat(6) + " ( " + "!".repeat(6) + "a)");
        Checks.dueFilter(21, "! ".repeat(6) + " ( " + "!".repeat(5) + "a!" + "a)");
    }

    private static void length() {
        Checks.dueFilter(-1, "a" + " ".repeat(119));
        Checks.dueFilter(120, "a" + " ".repeat(120));
        Checks.dueFilter(120, "&" + " ".repeat(120));
        Checks.dueFilter(120, "\n".repeat(1200));
        Checks.dueFilter(0, "&" + " ".repeat(119));
        Checks.dueFilter(120, " ".repeat(119) + "!");
        Checks.dueFilter(119, " ".repeat(119) + "&");
        Checks.dueFilter(-1, "?&".repeat(59) + " ?");
    }

    private static void noSuchTests() {
        TestFinder x = Checks.finder(SCRIPT);
        for (int test : new int[] {-1, 8, 120, Integer.MAX_VALUE, Integer.MIN_VALUE}) {
            Checks.due("passes(" + test + ")", false, x.passes(test));
        }
        Checks.due("filter", -1, Checks.filter(x, "!none"));
        for (int test : new int[] {-1, 8, 120, Integer.MAX_VALUE, Integer.MIN_VALUE}) {
            Checks.due("passes(" + test + ")", false, x.passes(test));
        }
        Checks.due("passing", 8, x.passing());
    }
}
