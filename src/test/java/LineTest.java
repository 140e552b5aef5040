/** Promise 3, with "Terms": the lines of a script, their words, and what each kind of line says. */
public final class LineTest {
    /** Each kind of line with a place for a name, and for a value, marked by $. */
    private static final String[] NAMED = {"suite $", "case $", "tag $", "tag o_ $", "tag $ o_", "with $ 1"};
    private static final String[] VALUED = {"with p $", "with p o_ $", "with p $ o_"};

    public static void main(String[] args) {
        mostCharacters();
        numbersOfLines();
        words();
        nothing();
        firstWords();
        numbersOfWords();
        suitesOfCases();
        linesOfACase();
        tagsOfASuite();
        values();
        sizes();
        reasons();
        lengthsOfNames();
        charactersOfNames();
        namesThatAreNearlyTheSame();
        Checks.end();
    }

    /** The line's answer behind a case: it is line 1. */
    private static void dueLine(boolean right, String line) {
        Checks.dueScript(right ? -1 : 1, "case o_\n" + line);
    }

    private static void mostCharacters() {
        Checks.sentence("A SCRIPT is a row of at most 1200 characters (10, 32 .. 126)");
        Checks.dueScript(-1, "#".repeat(1200));
        Checks.dueScript(-1, "\n".repeat(1200));
        Checks.dueScript(-1, " ".repeat(1200));
        Checks.dueScript(0, "x".repeat(1200));
        Checks.dueScript(-1, "#".repeat(1182) + "\ncase abcdefghijkl");
        Checks.dueScript(1, "#".repeat(1181) + "\ncase abcdefghijklm");
        TestFinder x = Checks.put("#".repeat(1182) + "\ncase abcdefghijkl");
        Checks.due("a thirteenth letter does not come", false, x.text('m'));
        Checks.due("script", -1, x.script());
        Checks.due("name", "abcdefghijkl", Checks.name(x, 0));
        for (char c = 32; c <= 126; c++) {
            Checks.dueScript(-1, "#" + c + "\ncase a\nskip x" + c + "\n#" + c);
        }
    }

    private static void numbersOfLines() {
        Checks.sentence("in LINES (numbered from 0), each ended by the character 10 (or the SCRIPT's end)");
        Checks.dueScript(0, "x");
        Checks.dueScript(0, "x\n");
        Checks.dueScript(1, "\nx");
        Checks.dueScript(1, "\nx\n");
        Checks.dueScript(5, "\n\n#x\n \ncase a\nx");
        Checks.dueScript(0, "x" + "\n".repeat(1199));
        Checks.dueScript(1199, "\n".repeat(1199) + "x");
        Checks.dueScript(1198, "\n".repeat(1198) + "x\n");
        Checks.dueScript(-1, "case a\n");
        Checks.dueScript(-1, "case a\n\n");
        Checks.dueScript(0, "case\na");
        Checks.dueScript(1, "case a\nb");
        TestFinder x = Checks.finder("case a\n" + "\n".repeat(1187) + "case b");
        Checks.due("the first line", 0, x.test(0, 8));
        Checks.due("the last line that a case can have", 1188, x.test(1, 8));
        Checks.due("alone", 1194, Checks.finder("\n".repeat(1194) + "case a").test(0, 8));
    }

    private static void words() {
        Checks.sentence("A LINE is cut into WORDS by blanks");
        TestFinder x = Checks.finder("  case   a  \n   tag  b   c \n with  p  1   2 \n  size  3 \n fails  ");
        Checks.dueTold(x, 1, 0, -1, 3, 0, 1, 2, 1, 6, 0);
        Checks.dueScript(-1, " ".repeat(594) + "case" + " ".repeat(601) + "a");
        Checks.dueScript(0, "x ".repeat(600));
        Checks.dueScript(0, "case a" + " x".repeat(597));
        Checks.dueScript(0, "casea");
        Checks.dueScript(1, "case a\ntagb");
        Checks.dueScript(1, "case a\nwithp 1");
        Checks.dueScript(1, "case a\nsize1");
    }

    private static void nothing() {
        Checks.sentence("nothing (no WORDS, or the first one begins with #)");
        for (String line : new String[] {"", " ", "   ", "#", " #", "#x", "  #x", "##", "# case A", "#case A"}) {
            Checks.dueScript(-1, line);
            Checks.dueScript(-1, line + "\n");
            Checks.dueCounts(Checks.finder("case a\n" + line + "\nfails\n" + line), 0, 1, 1);
        }
        for (String line : new String[] {"x#", "x #", "case #", "case# a", "case a #", "case a# ", "suite s #"}) {
            Checks.dueScript(0, line);
        }
        for (String line : new String[] {"fails #", "size 1 #", "tag t #", "with p 1 #", "with p #", "tag #t"}) {
            dueLine(false, line);
        }
        for (char c = 33; c <= 126; c++) {
            Checks.dueScript(c == '#' ? -1 : 0, "" + c);
            Checks.dueScript(c == '#' ? -1 : 0, " " + c + "case a");
        }
        Checks.dueScript(-1, "# ".repeat(600));
    }

    private static void firstWords() {
        Checks.sentence("ILL ..: another first WORD");
        for (String line : new String[] {"suite s", "case a", "tag t", "with p 1", "size 1", "skip x", "fails"}) {
            dueLine(true, line);
            int end = line.contains(" ") ? line.indexOf(' ') : line.length();
            for (int i = 0; i < end; i++) {
                dueLine(false, line.substring(0, i) + line.substring(i + 1));
                dueLine(false, line.substring(0, i) + Character.toUpperCase(line.charAt(i)) + line.substring(i + 1));
                dueLine(false, line.substring(0, i) + (char) (line.charAt(i) + 1) + line.substring(i + 1));
                dueLine(false, line.substring(0, i) + "x" + line.substring(i));
            }
            for (String more : new String[] {"s", ":", "#", "_", "1"}) {
                dueLine(false, line.substring(0, end) + more + line.substring(end));
            }
        }
        dueLine(false, "a case");
    }

    private static void numbersOfWords() {
        Checks.sentence("ILL ..: too few WORDS or too many");
        dueNumbersOfWords("suite", 1, 1, "s t u v w");
        dueNumbersOfWords("case", 1, 1, "s t u v w");
        dueNumbersOfWords("tag", 1, 8, "a b c d e f g h i j");
        dueNumbersOfWords("with", 2, 7, "p 1 2 3 4 5 6 7 8");
        dueNumbersOfWords("size", 1, 1, "1 2 3 4");
        dueNumbersOfWords("fails", 0, 0, "fails x y");
        dueNumbersOfWords("skip", 1, 594, "x ".repeat(594));
        Checks.dueScript(1, "suite s\ntag");
        Checks.dueScript(-1, "suite s\ntag t");
    }

    private static void dueNumbersOfWords(String first, int fewest, int most, String words) {
        String[] behind = words.split(" ");
        StringBuilder line = new StringBuilder(first);
        for (int count = 0; count <= behind.length; count++) {
            if (count < 12 || count > 590) {
                dueLine(count >= fewest && count <= most, line.toString());
            }
            line.append(count < behind.length ? " " + behind[count] : "");
        }
    }

    private static void suitesOfCases() {
        Checks.sentence("suite NAME : a SUITE; all CASES behind it, up to the next one, are in it (those before the first are in none)");
        TestFinder x = Checks.finder("case a\ncase b\nsuite s\ncase a\ncase b\nsuite empty\nsuite t\ncase b");
        int[] suites = {-1, -1, 0, 0, 2};
        String[] names = {"a", "b", "s.a", "s.b", "t.b"};
        for (int test = 0; test < suites.length; test++) {
            Checks.due("its suite", suites[test], x.test(test, 1));
            Checks.due("its name", names[test], Checks.name(x, test));
        }
        TestFinder y = Checks.finder(Checks.many(10, "suite s", "\ncase a\n"));
        Checks.due("the last suite that there can be", 9, y.test(9, 1));
        Checks.due("and its name", "s9.a", Checks.name(y, 9));
    }

    private static void linesOfACase() {
        Checks.sentence("case NAME : a CASE; the lines behind it, up to the next case or suite, are its own");
        String own = "\ntag t\nwith p 1\nsize 3\nskip x\nfails\n";
        TestFinder x = Checks.finder("case a" + own + "case b\nsuite s\ntag u\ncase c" + own + "suite t\ncase d\ncase e" + own);
        Checks.dueTold(x, 0, 0, -1, 3, 1, 1, 1, 1, 6, 0);
        Checks.dueTold(x, 1, 1, -1, 1, 0, 0, 0, 0, 1, 6);
        Checks.dueTold(x, 2, 2, 0, 3, 1, 1, 2, 1, 8, 9);
        Checks.dueTold(x, 3, 3, 1, 1, 0, 0, 0, 0, 3, 16);
        Checks.dueTold(x, 4, 4, 1, 3, 1, 1, 1, 1, 8, 17);
    }

    private static void tagsOfASuite() {
        Checks.sentence("tag ..: TAGS (behind suite, before its first case: TAGS of all its CASES)");
        String script = "case z\nsuite s\ntag a b\n#\ntag c\ncase x\ntag d\ncase y\nsuite t\ncase x\ntag e\ncase y\nsuite u\ntag a\ncase x";
        int[] tags = {0, 4, 3, 1, 0, 1};
        String[] passing = {"011001", "011000", "011000", "010000", "000100"};
        TestFinder x = Checks.finder(script);
        for (int test = 0; test < tags.length; test++) {
            Checks.due("tags of " + test, tags[test], x.test(test, 5));
        }
        for (int i = 0; i < passing.length; i++) {
            String tag = "" + (char) ('a' + i);
            Checks.due("which have " + tag, passing[i], Checks.passing(Checks.finder(script, tag)));
        }
    }

    private static void values() {
        Checks.sentence("with NAME VALUE .. : a PARAMETER with VALUES (1 to 6)");
        for (int count = 0; count <= 8; count++) {
            String script = "case a\nwith p" + Checks.many(count, " ", "");
            boolean right = count >= 1 && count <= 6;
            Checks.dueScript(right ? -1 : 1, script);
            if (right) {
                TestFinder x = Checks.finder(script);
                Checks.dueCounts(x, 0, 1, count);
                Checks.due("the last", "a[p=" + (count - 1) + "]", Checks.name(x, count - 1));
            }
        }
    }

    private static void sizes() {
        Checks.sentence("size NUMBER (one digit, 1 .. 9; otherwise it is 1)");
        for (char c = 33; c <= 126; c++) {
            dueLine(c >= '1' && c <= '9', "size " + c);
            dueLine(false, "size 1" + c);
            dueLine(false, "size " + c + "1");
        }
        for (int size = 1; size <= 9; size++) {
            Checks.due("size " + size, size, Checks.finder("case a\nsize " + size).test(0, 2));
        }
        Checks.due("without", 1, Checks.finder("case a").test(0, 2));
        dueLine(false, "size 1 0");
    }

    private static void reasons() {
        Checks.sentence("skip WORD .. : its REASON is all from the first of these WORDS on to the last one, as it stands (one or more)");
        dueLine(false, "skip");
        dueLine(false, "skip   ");
        String[] reasons = {"x", "#", "x y", "x  y", "x   #  y", "skip", "case a", "~", "!\"#$%&'()*+,-./:;<=>?@[\\]^`{|}~ AZ"};
        for (String reason : reasons) {
            for (String blanks : new String[] {"", " ", "    "}) {
                for (String end : new String[] {"", "\n", "\ncase b"}) {
                    TestFinder x = Checks.finder("case a\n" + blanks + "skip " + blanks + reason + blanks + end);
                    Checks.due("reason", reason, Checks.reason(x, 0));
                }
            }
        }
        TestFinder longest = Checks.finder("case a\nskip " + "x".repeat(1187) + "y");
        Checks.due("its last character", 'y', longest.reason(0, 1187));
        Checks.due("behind it", -1, longest.reason(0, 1188));
        TestFinder words = Checks.finder("case a\nskip" + " x".repeat(593) + " y");
        Checks.due("its last word", 'y', words.reason(0, 1186));
        Checks.due("behind it", -1, words.reason(0, 1187));
    }

    private static void lengthsOfNames() {
        Checks.sentence("A NAME has 1 to 12 characters ..; a VALUE likewise");
        for (int length = 1; length <= 30; length++) {
            for (char c : new char[] {'a', 'z'}) {
                for (String line : NAMED) {
                    dueLine(length <= 12, line.replace("$", ("" + c).repeat(length)));
                }
            }
            for (char c : new char[] {'a', 'z', '9', '_'}) {
                for (String line : VALUED) {
                    dueLine(length <= 12, line.replace("$", ("" + c).repeat(length)));
                }
            }
        }
    }

    /** Each character as the only one, the first, the last, and in the middle of twelve. */
    private static void charactersOfNames() {
        Checks.sentence("a .. z, 0 .. 9, _, and begins with a letter; a VALUE likewise, but it may begin with any of these");
        for (char c = 33; c <= 126; c++) {
            for (String line : NAMED) {
                dueLine(Checks.isLetter(c), line.replace("$", "" + c));
                dueLine(Checks.isLetter(c), line.replace("$", c + "b"));
                dueLine(Checks.isOfAName(c), line.replace("$", "b" + c));
                dueLine(Checks.isOfAName(c), line.replace("$", "bbbbb" + c + "bbbbbb"));
                dueLine(Checks.isOfAName(c), line.replace("$", "bbbbbbbbbbb" + c));
            }
            for (String line : VALUED) {
                dueLine(Checks.isOfAName(c), line.replace("$", "" + c));
                dueLine(Checks.isOfAName(c), line.replace("$", c + "b"));
                dueLine(Checks.isOfAName(c), line.replace("$", "b" + c));
                dueLine(Checks.isOfAName(c), line.replace("$", "bbbbb" + c + "bbbbbb"));
                dueLine(Checks.isOfAName(c), line.replace("$", "bbbbbbbbbbb" + c));
            }
        }
    }

    /** They are no second ones, and come back as they were. */
    private static void namesThatAreNearlyTheSame() {
        Checks.sentence("A NAME has 1 to 12 characters, a .. z, 0 .. 9, _");
        String[][] pairs = {{"a", "aa"}, {"a", "a_"}, {"a", "a0"}, {"zzzzzzzzzzzz", "zzzzzzzzzzz_"}, {"a0", "a00"},
            {"abcdefghijkl", "abcdefghijkm"}, {"abcdefghijkl", "bbcdefghijkl"}, {"abcdefghijkl", "abcdefghijk"}, {"ab", "ba"}};
        for (String[] pair : pairs) {
            String one = pair[0];
            String other = pair[1];
            Checks.dueScript(-1, "suite " + one + "\nsuite " + other);
            Checks.dueScript(-1, "suite s\ntag " + one + "\ncase c\ntag " + other);
            Checks.dueScript(-1, "case c\nwith " + one + " 1\nwith " + other + " 1");
            TestFinder x = Checks.finder("case " + one + "\ncase " + other + "\nwith p " + other + " " + one);
            Checks.due("name", one, Checks.name(x, 0));
            Checks.due("name", other + "[p=" + other + "]", Checks.name(x, 1));
            Checks.due("name", other + "[p=" + one + "]", Checks.name(x, 2));
        }
        Checks.dueScript(-1, "case a\nwith p 0 00 _ __ 0_ _0\nwith q 01 1 a0 10");
    }
}
