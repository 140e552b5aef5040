/** Promises 9 to 11: which tests pass a filter, when it stays, and when it goes. */
public final class FilterTest {
    private static final String SCRIPT = "case one\nsize 2\ncase two\ntag t1\nskip x\nsuite net\ntag slow\n"
            + "case one\nwith p 1 2\nwith q 2 1\ntag io\nfails\ncase two\nsize 9\nskip y\nfails\nsuite one\ncase net\nwith p 2";

    public static void main(String[] args) {
        without();
        tags();
        suites();
        cases();
        values();
        sizes();
        skippedAndFailing();
        longestNames();
        operators();
        mostOperators();
        blanks();
        becomesTheFilter();
        theTapeIsEmptyThen();
        stays();
        noFilterStaysToo();
        manyOnOneObject();
        noSuchTests();
        howMany();
        Checks.end();
    }

    /** Of the tests one, two, four of net.one (p q: 12 11 22 21), net.two, one.net[p=2]. */
    private static void duePassing(String filter, String want) {
        TestFinder x = Checks.finder(SCRIPT, filter);
        Checks.due("what passes " + filter, want, Checks.passing(x));
        Checks.due("passing() of " + filter, want.replace("0", "").length(), x.passing());
    }

    private static void without() {
        Checks.sentence("Whether a TEST passes the FILTER (without one each does)");
        Checks.due("without a filter", "11111111", Checks.passing(Checks.finder(SCRIPT)));
        Checks.due("without a filter", 8, Checks.finder(SCRIPT).passing());
    }

    private static void tags() {
        Checks.sentence("a NAME: the TEST has this TAG");
        duePassing("t1", "01000000");
        duePassing("slow", "00111110");
        duePassing("io", "00111100");
        duePassing("t", "00000000");
        duePassing("t11", "00000000");
        for (String noTag : new String[] {"net", "one", "two", "p", "q", "x", "case", "tag"}) {
            duePassing(noTag, "00000000");
        }
    }

    private static void suites() {
        Checks.sentence("@ NAME: it is in this SUITE");
        duePassing("@net", "00111110");
        duePassing("@one", "00000001");
        for (String noSuite : new String[] {"two", "t1", "ne", "nett", "p"}) {
            duePassing("@" + noSuite, "00000000");
        }
    }

    private static void cases() {
        Checks.sentence("= NAME: its CASE has this NAME");
        duePassing("=one", "10111100");
        duePassing("=two", "01000010");
        duePassing("=net", "00000001");
        for (String noCase : new String[] {"slow", "on", "onee", "p"}) {
            duePassing("=" + noCase, "00000000");
        }
    }

    private static void values() {
        Checks.sentence("NAME : VALUE: a PARAMETER has this VALUE");
        duePassing("p:1", "00110000");
        duePassing("p:2", "00001101");
        duePassing("q:1", "00010100");
        duePassing("q:2", "00101000");
        for (String none : new String[] {"p:3", "p:p", "p:11", "r:1", "pp:1", "slow:1", "one:2"}) {
            duePassing(none, "00000000");
        }
        String all = "case a\nwith p 1 2 3 4 5 6\nwith q 1 2\nwith r 1 2";
        for (int value = 1; value <= 6; value++) {
            Checks.due("p:" + value, "0000".repeat(value - 1) + "1111" + "0000".repeat(6 - value),
                    Checks.passing(Checks.finder(all, "p:" + value)));
        }
        String four = "case a\nwith p 0 1\nwith q 0 1\nwith r 0 1\nwith s 0 1";
        Checks.due("the first of four", "0000000011111111", Checks.passing(Checks.finder(four, "p:1")));
        Checks.due("the second", "0000111100001111", Checks.passing(Checks.finder(four, "q:1")));
        Checks.due("the third", "0011001100110011", Checks.passing(Checks.finder(four, "r:1")));
        Checks.due("the last", "0101010101010101", Checks.passing(Checks.finder(four, "s:1")));
    }

    /** Each size with each number, and a case without size. */
    private static void sizes() {
        Checks.sentence("< NUMBER (1 .. 9): its size is less");
        String script = "case c0\n";
        for (int size = 1; size <= 9; size++) {
            script += "case c" + size + "\nsize " + size + "\n";
        }
        for (int number = 1; number <= 9; number++) {
            String want = (number > 1 ? "1" : "0") + "1".repeat(number - 1) + "0".repeat(10 - number);
            TestFinder x = Checks.finder(script, "<" + number);
            Checks.due("what is < " + number, want, Checks.passing(x));
        }
    }

    private static void skippedAndFailing() {
        Checks.sentence("? : it is skipped. ~ : it is expected to fail");
        duePassing("?", "01000010");
        duePassing("~", "00111110");
    }

    /** Names and values of twelve characters, of which one alone is another. */
    private static void longestNames() {
        Checks.sentence("ATOMS: a NAME .. @ NAME .. = NAME .. NAME : VALUE");
        String name = "z_zzzzzzzz9z";
        String value = "_9zzzzzzzz_9";
        String script = "suite " + name + "\ncase " + name + "\ntag " + name + "\nwith " + name + " " + value;
        duePasses(script, name, true);
        duePasses(script, "@" + name, true);
        duePasses(script, "=" + name, true);
        duePasses(script, name + ":" + value, true);
        for (int place = 0; place < 12; place++) {
            String other = name.substring(0, place) + "a" + name.substring(place + 1);
            String otherValue = value.substring(0, place) + "a" + value.substring(place + 1);
            duePasses(script, other, false);
            duePasses(script, "@" + other, false);
            duePasses(script, "=" + other, false);
            duePasses(script, other + ":" + value, false);
            duePasses(script, name + ":" + otherValue, false);
        }
        duePasses(script, name.substring(0, 11), false);
        duePasses(script, name + ":" + value.substring(0, 11), false);
    }

    private static void duePasses(String script, String filter, boolean want) {
        TestFinder x = Checks.finder(script, filter);
        Checks.due("passes " + filter, want, x.passes(0));
        Checks.due("passing() of " + filter, want ? 1 : 0, x.passing());
    }

    private static void operators() {
        Checks.sentence("EITHER: ALSO, or EITHER | ALSO. ALSO: NOT, or ALSO & NOT. NOT: ! NOT, or ( EITHER ), or an ATOM");
        duePassing("!slow", "11000001");
        duePassing("!!slow", "00111110");
        duePassing("!!!slow", "11000001");
        duePassing("slow&p:1", "00110000");
        duePassing("?|p:1", "01110010");
        duePassing("?|slow&p:1", "01110010");
        duePassing("p:1&slow|?", "01110010");
        duePassing("(?|slow)&p:1", "00110000");
        duePassing("p:1&(?|slow)", "00110000");
        duePassing("!p:1&slow", "00001110");
        duePassing("!p:1|slow", "11111111");
        duePassing("!(p:1&slow)", "11001111");
        duePassing("!(p:1|slow)", "11000001");
        duePassing("!?|?", "11111111");
        duePassing("!?&?", "00000000");
        duePassing("?&!?", "00000000");
        duePassing("p:1&q:2|p:2&q:1", "00100100");
        duePassing("p:1&q:2&!slow|~&?|=net", "00000011");
        duePassing("(((t1)))", "01000000");
        duePassing("!(!t1)", "01000000");
        duePassing("?|(~|(=one&(<2|!<3)))", "01111110");
    }

    /** As many as twelve marks that are open, and as 120 characters, allow. */
    private static void mostOperators() {
        Checks.sentence("A FILTER is a row of at most 120 characters .. At most 12 ! and ( are open within one another");
        duePassing("t1|" + "t1|".repeat(38) + "io", "01111100");
        duePassing("~|".repeat(59) + "?", "01111110");
        duePassing("~|".repeat(59) + " ?", "01111110");
        duePassing("~&".repeat(59) + "?", "00000010");
        duePassing("~&".repeat(59) + " ?", "00000010");
        duePassing("?|" + "~&".repeat(58) + "!?", "01111110");
        duePassing("!".repeat(12) + "?", "01000010");
        duePassing("!".repeat(11) + "?", "10111101");
        duePassing("!(".repeat(6) + "?" + ")".repeat(6), "01000010");
        duePassing("!(".repeat(5) + "!?" + ")".repeat(5), "01000010");
        duePassing("!(".repeat(5) + "?" + ")".repeat(5), "10111101");
        duePassing("~&(".repeat(12) + "?" + ")".repeat(12), "00000010");
        duePassing("~|(".repeat(12) + "?" + ")".repeat(12), "01111110");
        duePassing("?&(".repeat(12) + "~|".repeat(34) + "=two" + ")".repeat(12), "01000010");
        duePassing(" ".repeat(119) + "?", "01000010");
        duePassing("?" + " ".repeat(119), "01000010");
    }

    private static void blanks() {
        Checks.sentence("Blanks may be between all these");
        String[] parts = {"!", "(", "@", "net", "&", "=", "one", "|", "p", ":", "2", ")", "&", "<", "2", "|", "?", "&", "~", "|", "t1"};
        String want = Checks.passing(Checks.finder(SCRIPT, String.join("", parts)));
        Checks.due("without blanks", "01000010", want);
        duePassing(" " + String.join(" ", parts) + " ", want);
        duePassing("  " + String.join("   ", parts) + "  ", want);
        for (int at = 0; at <= parts.length; at++) {
            StringBuilder filter = new StringBuilder();
            for (int i = 0; i <= parts.length; i++) {
                filter.append(i == at ? "  " : "").append(i < parts.length ? parts[i] : "");
            }
            duePassing(filter.toString(), want);
        }
        duePassing("  p  :  1  ", "00110000");
        duePassing("! = one", "01000011");
    }

    private static void becomesTheFilter() {
        Checks.sentence("The TAPE becomes the FILTER ..: NONE");
        TestFinder x = Checks.finder(SCRIPT, "slow");
        Checks.due("the first", "00111110", Checks.passing(x));
        Checks.due("another", -1, Checks.filter(x, "?"));
        Checks.due("takes its place", "01000010", Checks.passing(x));
        Checks.due("a third", -1, Checks.filter(x, "!t1|slow"));
        Checks.due("takes its place", "10111111", Checks.passing(x));
        Checks.due("a shorter one", -1, Checks.filter(x, "t1"));
        Checks.due("nothing is left of the others", "01000000", Checks.passing(x));
        Checks.dueCounts(x, 2, 5, 8);
    }

    private static void theTapeIsEmptyThen() {
        Checks.sentence("The TAPE becomes the FILTER, and is empty then");
        for (String filter : new String[] {"?", "?)", "!", "", "?" + " ".repeat(120)}) {
            TestFinder x = Checks.finder(SCRIPT);
            Checks.filter(x, filter);
            Checks.due("a filter of nothing, behind '" + filter + "'", 0, x.filter());
            Checks.filter(x, filter);
            Checks.due("one, behind '" + filter + "'", 0, Checks.find(x, "one"));
            Checks.filter(x, filter);
            Checks.due("script, behind '" + filter + "'", -1, Checks.script(x, "case a"));
        }
    }

    private static void stays() {
        Checks.sentence("or the place at which it is ILL (the FILTER stays ..)");
        TestFinder x = Checks.finder(SCRIPT, "slow");
        Checks.due("an ill one", 1, Checks.filter(x, "?)"));
        Checks.due("the first stays", "00111110", Checks.passing(x));
        Checks.due("an ill one at its end", 8, Checks.filter(x, "t1 | ? &"));
        Checks.due("the first stays", "00111110", Checks.passing(x));
        Checks.due("one of no characters", 0, x.filter());
        Checks.due("the first stays", "00111110", Checks.passing(x));
        Checks.due("one too long", 120, Checks.filter(x, "?" + " ".repeat(120)));
        Checks.due("the first stays", "00111110", Checks.passing(x));
        Checks.due("ill at once", 0, Checks.filter(x, ")"));
        Checks.due("the first stays", "00111110", Checks.passing(x));
        Checks.due("how many", 5, x.passing());
    }

    private static void noFilterStaysToo() {
        Checks.sentence("or the place at which it is ILL (the FILTER stays ..)");
        for (String ill : new String[] {"", ")", "?)", "!?&", "<1 <", "?" + " ".repeat(120)}) {
            TestFinder x = Checks.finder(SCRIPT);
            Checks.filter(x, ill);
            Checks.due("without one each passes", "11111111", Checks.passing(x));
            Checks.due("without one each passes", 8, x.passing());
        }
    }

    private static void manyOnOneObject() {
        Checks.sentence("The TAPE becomes the FILTER, and is empty then");
        TestFinder x = Checks.finder(SCRIPT);
        for (int i = 0; i < 36; i++) {
            Checks.due("filter", -1, Checks.filter(x, "(t1|?)&!~"));
            Checks.due("passing", 1, x.passing());
            Checks.due("an ill filter", 2, Checks.filter(x, "~|"));
            Checks.due("filter", -1, Checks.filter(x, "!?"));
            Checks.due("passing", 6, x.passing());
            Checks.due("filter", -1, Checks.filter(x, "~"));
            Checks.due("passing", 5, x.passing());
        }
    }

    private static void noSuchTests() {
        Checks.sentence("false if there is none such");
        for (String filter : new String[] {"", "!none", "none"}) {
            TestFinder x = Checks.finder(SCRIPT);
            Checks.filter(x, filter);
            for (int test : Checks.FAR) {
                Checks.due("passes(" + test + ")", false, x.passes(test));
            }
            Checks.due("passes(8)", false, x.passes(8));
            Checks.due("passes(120)", false, x.passes(120));
            Checks.due("the last", !filter.equals("none"), x.passes(7));
        }
        TestFinder x = Checks.finder(Checks.fullScript());
        Checks.due("the last of 120", true, x.passes(119));
        Checks.due("none behind it", false, x.passes(120));
    }

    private static void howMany() {
        Checks.sentence("How many TESTS pass the FILTER");
        Checks.due("of no tests", 0, new TestFinder().passing());
        TestFinder x = new TestFinder();
        Checks.due("a filter without tests", -1, Checks.filter(x, "!?"));
        Checks.due("of no tests", 0, x.passing());
        String full = Checks.fullScript() + "skip x";
        Checks.due("all without a filter", 120, Checks.finder(full).passing());
        Checks.due("all", 120, Checks.finder(full, "<2").passing());
        Checks.due("none", 0, Checks.finder(full, "<1").passing());
        Checks.due("the last 24", 24, Checks.finder(full, "?").passing());
        Checks.due("all but the last 24", 96, Checks.finder(full, "!?").passing());
        Checks.due("one alone", 1, Checks.finder(full, "=c4&p:6&q:4").passing());
        Checks.due("all but one", 119, Checks.finder(full, "!=c4|!p:6|!q:4").passing());
    }
}
