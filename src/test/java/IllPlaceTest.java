/** Promise 9, with "Terms": the place at which a filter is ill. */
public final class IllPlaceTest {
    private static final String LETTERS = "abcdefghijklmnopqrstuvwxyz";
    private static final String OF_A_NAME = LETTERS + "0123456789_";
    private static final String OF_AN_ATOM = "@=<?~" + LETTERS;
    private static final String TWELVE = "abcdefghijkl";

    public static void main(String[] args) {
        anAtomIsDue();
        aNameIsDue();
        aValueIsDue();
        aNumberIsDue();
        withinATag();
        withinAName();
        withinAValue();
        behindAnAtom();
        behindAnEnclosed();
        noBlankWithin();
        lengthsOfNames();
        twelveOpen();
        twelveOpenInAllMixes();
        closedAgain();
        theEnd();
        mostCharacters();
        tooLong();
        whatStoodBehindDoesNotCount();
        Checks.end();
    }

    /**
     * What comes behind a beginning: each character that may, makes it ill at the new end if at all;
     * each other, at its own place. And whether the beginning alone is a filter.
     */
    private static void dueBehind(String beginning, boolean whole, String may) {
        int place = beginning.length();
        Checks.dueFilter(whole ? -1 : place, beginning);
        for (char c : Checks.tapeCharacters()) {
            String filter = beginning + c;
            if (c == ' ' || may.indexOf(c) >= 0) {
                int answer = Checks.filter(new TestFinder(), filter);
                Checks.due("filter() of '" + filter + "'", true, answer == -1 || answer == place + 1);
            } else {
                Checks.dueFilter(place, filter);
                Checks.dueFilter(place, filter + "a");
                Checks.dueFilter(place, filter + " )");
            }
        }
    }

    private static void dueBehindAndBlanks(String beginning, boolean whole, String may) {
        dueBehind(beginning, whole, may);
        dueBehind(beginning + " ", whole, may);
        dueBehind(beginning + "    ", whole, may);
    }

    private static void anAtomIsDue() {
        Checks.sentence("NOT: ! NOT, or ( EITHER ), or an ATOM");
        String[] beginnings = {"", "!", "(", "! (", "!!", "((", "a&", "a|", "a:1&", "@a|", "=a&", "<1|", "?&", "~|", "(a)&",
            "(a|", "(a&", "!a&", "!(a)|", "a&b|", "a|b&", "((a)|"};
        for (String beginning : beginnings) {
            dueBehindAndBlanks(beginning, false, "!(" + OF_AN_ATOM);
        }
    }

    private static void aNameIsDue() {
        Checks.sentence("@ NAME: it is in this SUITE. = NAME: its CASE has this NAME");
        for (String before : new String[] {"", "!", "(", "a&", "a|", "a:1&"}) {
            dueBehindAndBlanks(before + "@", false, LETTERS);
            dueBehindAndBlanks(before + "=", false, LETTERS);
        }
    }

    private static void aValueIsDue() {
        Checks.sentence("NAME : VALUE: a PARAMETER has this VALUE");
        for (String before : new String[] {"a:", "a :", "!a:", "(a:", "?&a:", TWELVE + ":", "(a|b:"}) {
            dueBehindAndBlanks(before, false, OF_A_NAME);
        }
    }

    private static void aNumberIsDue() {
        Checks.sentence("< NUMBER (1 .. 9): its size is less");
        for (String before : new String[] {"<", "!<", "(<", "?&<"}) {
            dueBehindAndBlanks(before, false, "123456789");
        }
        Checks.dueFilter(2, "<10");
        Checks.dueFilter(1, "<01");
        Checks.dueFilter(1, "<-1");
    }

    private static void withinATag() {
        Checks.sentence("a NAME: the TEST has this TAG");
        for (String name : new String[] {"a", "z", "a0", "a_", "abcdefghijk"}) {
            dueBehind(name, true, ":&|" + OF_A_NAME);
            dueBehind("!" + name, true, ":&|" + OF_A_NAME);
            dueBehind("(" + name, false, ":&|)" + OF_A_NAME);
            dueBehind("a&" + name, true, ":&|" + OF_A_NAME);
            dueBehind(name + " ", true, ":&|");
            dueBehind("(" + name + "  ", false, ":&|)");
        }
        dueBehind(TWELVE, true, ":&|");
        dueBehind("(" + TWELVE, false, ":&|)");
    }

    private static void withinAName() {
        Checks.sentence("@ NAME: it is in this SUITE. = NAME: its CASE has this NAME");
        for (String mark : new String[] {"@", "=", "@ ", "=  ", "!@", "a|="}) {
            for (String name : new String[] {"a", "z9", "abcdefghijk"}) {
                dueBehind(mark + name, true, "&|" + OF_A_NAME);
                dueBehind("(" + mark + name, false, "&|)" + OF_A_NAME);
                dueBehind(mark + name + " ", true, "&|");
            }
            dueBehind(mark + TWELVE, true, "&|");
            dueBehind("(" + mark + TWELVE, false, "&|)");
        }
    }

    private static void withinAValue() {
        Checks.sentence("NAME : VALUE: a PARAMETER has this VALUE");
        for (String before : new String[] {"a:", "a : ", "!a:", "a|a:"}) {
            for (String value : new String[] {"a", "0", "_", "9bcdefghijk"}) {
                dueBehind(before + value, true, "&|" + OF_A_NAME);
                dueBehind("(" + before + value, false, "&|)" + OF_A_NAME);
                dueBehind(before + value + " ", true, "&|");
            }
            for (String value : new String[] {TWELVE, "0bcdefghijkl", "____________"}) {
                dueBehind(before + value, true, "&|");
                dueBehind("(" + before + value, false, "&|)");
            }
        }
    }

    private static void behindAnAtom() {
        Checks.sentence("EITHER: ALSO, or EITHER | ALSO. ALSO: NOT, or ALSO & NOT");
        for (String atom : new String[] {"?", "~", "<1", "<9", "< 5", "!?", "!!~", "?&?", "?|~"}) {
            dueBehindAndBlanks(atom, true, "&|");
            dueBehindAndBlanks("(" + atom, false, "&|)");
            dueBehindAndBlanks("!(" + atom, false, "&|)");
        }
    }

    private static void behindAnEnclosed() {
        Checks.sentence("NOT: ! NOT, or ( EITHER ), or an ATOM");
        for (String enclosed : new String[] {"(a)", "(?)", "!(a)", "(a )", "( a:1 )", "(@a)", "((a))", "(a|b)", "a&(b)"}) {
            dueBehindAndBlanks(enclosed, true, "&|");
            dueBehindAndBlanks("(" + enclosed, false, "&|)");
        }
    }

    private static void noBlankWithin() {
        Checks.sentence("but not within a NAME, VALUE or NUMBER");
        for (int at = 1; at < 12; at++) {
            String cut = TWELVE.substring(0, at) + " " + TWELVE.substring(at);
            Checks.dueFilter(at + 1, cut);
            Checks.dueFilter(at + 2, "@" + cut);
            Checks.dueFilter(at + 2, "=" + cut);
            Checks.dueFilter(at + 1, cut + ":1");
            Checks.dueFilter(at + 3, "a:" + cut);
        }
        Checks.dueFilter(3, "<1 0");
        Checks.dueFilter(4, "a:1 2");
        Checks.dueFilter(4, "a   b");
    }

    private static void lengthsOfNames() {
        Checks.sentence("A NAME has 1 to 12 characters ..; a VALUE likewise");
        for (int length = 1; length <= 40; length++) {
            boolean right = length <= 12;
            Checks.dueFilter(right ? -1 : 12, "z".repeat(length));
            Checks.dueFilter(right ? -1 : 13, "@" + "z".repeat(length));
            Checks.dueFilter(right ? -1 : 13, "=" + "z".repeat(length));
            Checks.dueFilter(right ? -1 : 12, "z".repeat(length) + ":1");
            Checks.dueFilter(right ? -1 : 14, "z:" + "_".repeat(length));
            Checks.dueFilter(right ? -1 : 18, "( z : " + "9".repeat(length) + ")");
        }
        Checks.dueFilter(13, "abcdefghijkl m");
    }

    private static void twelveOpen() {
        Checks.sentence("At most 12 ! and ( are open within one another (a ! up to the end of its NOT); the thirteenth is ILL");
        dueOpen("!".repeat(12), "");
        dueOpen("(".repeat(12), ")".repeat(12));
        dueOpen("!(".repeat(6), ")".repeat(6));
        dueOpen("(!".repeat(6), ")".repeat(6));
        dueOpen("a|" + "!".repeat(12), "");
        dueOpen(" ! ".repeat(12), "");
        dueOpen("(".repeat(11) + "a&!", ")".repeat(11));
        dueOpen("(".repeat(11) + "!a&(", ")".repeat(12));
        dueOpen("!".repeat(12) + "a&" + "!".repeat(12), "");
        dueOpen("(".repeat(12) + "a" + ")".repeat(12) + "|" + "(".repeat(12), ")".repeat(12));
    }

    /** Twelve are open behind this beginning: each atom may come, but no thirteenth mark. */
    private static void dueOpen(String beginning, String end) {
        for (String atom : new String[] {"a", "@a", "=a", "a:1", "<1", "?", "~"}) {
            Checks.dueFilter(-1, beginning + atom + end);
        }
        for (String more : new String[] {"!a", "(a)", "!", "(", "!!a", "((a))", "(!a)"}) {
            Checks.dueFilter(beginning.length(), beginning + more + end);
            Checks.dueFilter(beginning.length() + 2, beginning + "  " + more + end);
        }
        dueBehind(beginning, false, OF_AN_ATOM);
    }

    /** Every row of eleven to thirteen marks, each ! or (. */
    private static void twelveOpenInAllMixes() {
        Checks.sentence("At most 12 ! and ( are open within one another (a ! up to the end of its NOT); the thirteenth is ILL");
        for (int count = 11; count <= 13; count++) {
            for (int mask = 0; mask < 1 << count; mask++) {
                StringBuilder marks = new StringBuilder();
                for (int i = 0; i < count; i++) {
                    marks.append((mask >> i & 1) == 0 ? '!' : '(');
                }
                String filter = marks + "?" + ")".repeat(Integer.bitCount(mask));
                Checks.dueFilter(count <= 12 ? -1 : 12, filter);
            }
        }
    }

    private static void closedAgain() {
        Checks.sentence("(a ! up to the end of its NOT)");
        Checks.dueFilter(-1, "!a&".repeat(39) + "!a");
        Checks.dueFilter(-1, "!a|".repeat(39) + "!a");
        Checks.dueFilter(-1, "(a)&".repeat(29) + "(a)");
        Checks.dueFilter(-1, "!".repeat(12) + "a&" + "!".repeat(12) + "b|" + "(".repeat(12) + "c" + ")".repeat(12));
        Checks.dueFilter(26, "!".repeat(12) + "a&" + "!".repeat(13) + "b");
        Checks.dueFilter(-1, "(".repeat(11) + "!a&!b|(c)" + ")".repeat(11) + "&" + "!".repeat(12) + "a");
        Checks.dueFilter(12, "(".repeat(11) + "!!a" + ")".repeat(11));
        Checks.dueFilter(15, "(".repeat(11) + "!a&((b))" + ")".repeat(11));
        Checks.dueFilter(-1, "!(" + "!".repeat(10) + "a)&" + "!".repeat(12) + "b");
        Checks.dueFilter(-1, "!(!(a)&" + "!".repeat(10) + "b)");
        Checks.dueFilter(17, "!(!(a)&" + "!".repeat(11) + "b)");
        Checks.dueFilter(-1, "(".repeat(6) + "a" + ")".repeat(3) + "&" + "!".repeat(9) + "b" + ")".repeat(3));
        Checks.dueFilter(20, "(".repeat(6) + "a" + ")".repeat(3) + "&" + "!".repeat(10) + "b" + ")".repeat(3));
    }

    private static void theEnd() {
        Checks.sentence("ILL: the place of the first character that can't be where it is (or the FILTER's end)");
        Checks.dueFilter(0, "");
        for (int blanks = 1; blanks <= 120; blanks++) {
            Checks.dueFilter(blanks, " ".repeat(blanks));
        }
        for (String part : new String[] {"!", "(", "@", "=", "<", "a:", "a&", "a|", "(a", "((a)", "(a|b", "!(", "!@"}) {
            Checks.dueFilter(part.length(), part);
            Checks.dueFilter(part.length() + 3, part + "   ");
            Checks.dueFilter(120, part + " ".repeat(120 - part.length()));
        }
        Checks.dueFilter(1, "a)");
        Checks.dueFilter(3, "(a))");
        Checks.dueFilter(1, "()");
        Checks.dueFilter(1, "a\n");
        Checks.dueFilter(0, ") )");
        Checks.dueFilter(2, "a&&)");
    }

    private static void mostCharacters() {
        Checks.sentence("A FILTER is a row of at most 120 characters");
        Checks.dueFilter(-1, "a" + " ".repeat(119));
        Checks.dueFilter(-1, " ".repeat(119) + "a");
        Checks.dueFilter(-1, " ".repeat(108) + TWELVE);
        Checks.dueFilter(-1, "?&".repeat(59) + " ?");
        Checks.dueFilter(-1, "(?)|".repeat(29) + "(~ )");
        Checks.dueFilter(0, "&" + " ".repeat(119));
        Checks.dueFilter(119, " ".repeat(119) + "&");
        Checks.dueFilter(119, " ".repeat(118) + "a)");
        Checks.dueFilter(119, " ".repeat(107) + TWELVE + "m");
        Checks.dueFilter(120, " ".repeat(119) + "!");
        Checks.dueFilter(120, "?&".repeat(60));
    }

    private static void tooLong() {
        Checks.sentence("one of more than 120 characters is ILL at 120, whatever they are");
        for (int length : new int[] {121, 122, 128, 129, 240, 241, 1199, 1200}) {
            for (String first : new String[] {"a", "&", " ", "\n", "!", "(", "A"}) {
                Checks.dueFilter(120, first + " ".repeat(length - 1));
                Checks.dueFilter(120, first.repeat(length));
            }
            Checks.dueFilter(120, "a" + " ".repeat(length - 2) + ")");
            Checks.dueFilter(120, " ".repeat(length - 1) + "a");
        }
    }

    private static void whatStoodBehindDoesNotCount() {
        Checks.sentence("The TAPE becomes the FILTER, and is empty then");
        String[][] pairs = {{"!", "a"}, {"(", "a)"}, {"@", "a"}, {"=", "a"}, {"<", "1"}, {"a:", "1"}, {"a&", "b"}, {"a|", "b"}};
        for (String[] pair : pairs) {
            TestFinder x = new TestFinder();
            Checks.due("a whole one", -1, Checks.filter(x, pair[0] + pair[1]));
            Checks.due("its beginning alone", pair[0].length(), Checks.filter(x, pair[0]));
            Checks.due("one too long", 120, Checks.filter(x, " ".repeat(140)));
            Checks.due("a whole one again", -1, Checks.filter(x, pair[0] + pair[1]));
        }
    }
}
