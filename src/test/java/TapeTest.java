/** Promises 1 and 2: a new object, and what comes onto the tape. */
public final class TapeTest {
    public static void main(String[] args) {
        newObject();
        order();
        characters();
        noneComeWithAWrongOne();
        room();
        Checks.end();
    }

    private static void newObject() {
        TestFinder x = new TestFinder();
        Checks.due("new: suites", 0, x.count(0));
        Checks.due("new: cases", 0, x.count(1));
        Checks.due("new: tests", 0, x.count(2));
        Checks.due("new: test", -1, x.test(0, 0));
        Checks.due("new: letter", -1, x.letter(0, 0));
        Checks.due("new: reason", -1, x.reason(0, 0));
        Checks.due("new: passes", false, x.passes(0));
        Checks.due("new: passing", 0, x.passing());
        Checks.due("new: judge", -1, x.judge(0, true));
        Checks.due("new: find", -1, x.find());
        Checks.due("new: filter of nothing", 0, x.filter());
        Checks.due("new: script of nothing", -1, x.script());
    }

    private static void order() {
        TestFinder x = new TestFinder();
        Checks.due("zeros alone", true, x.text(0));
        Checks.due("zeros between", true, x.text(0x6300610000730065L));
        Checks.due("the highest byte first", true, x.text(0x2061620000000000L));
        Checks.due("script", -1, x.script());
        Checks.due("name", "ab", Checks.name(x, 0));
    }

    private static void characters() {
        for (int c = 1; c < 256; c++) {
            for (int shift = 0; shift <= 56; shift += 8) {
                TestFinder x = new TestFinder();
                boolean may = c == 10 || c >= 32 && c <= 126;
                Checks.due("text of " + c + " at " + shift, may, x.text((long) c << shift));
            }
        }
    }

    private static void noneComeWithAWrongOne() {
        TestFinder x = Checks.put("case a");
        Checks.due("a wrong one behind", false, x.text(Checks.pack("bcdefg\n\t")));
        Checks.due("a wrong one before", false, x.text(Checks.pack("\177bcdefgh")));
        Checks.due("a high one", false, x.text(0xff62636465666768L));
        Checks.due("script", -1, x.script());
        Checks.due("name", "a", Checks.name(x, 0));
    }

    private static void room() {
        TestFinder x = Checks.put("case a\n" + "#".repeat(1185));
        Checks.due("eight fit", true, x.text(Checks.pack("########")));
        Checks.due("none fits", false, x.text('#'));
        Checks.due("a wrong one neither", false, x.text(1));
        Checks.due("nothing always fits", true, x.text(0));
        Checks.due("script", -1, x.script());
        Checks.due("tests", 1, x.count(2));

        TestFinder z = Checks.put("#".repeat(1193));
        Checks.due("eight do not fit", false, z.text(Checks.pack("########")));
        Checks.due("seven do", true, z.text(Checks.pack("#######")));

        TestFinder y = Checks.put("#".repeat(1196));
        Checks.due("five do not fit", false, y.text(Checks.pack("\ncase")));
        Checks.due("four do", true, y.text(Checks.pack("\ntag")));
        Checks.due("script", 1, y.script());
        Checks.due("there is room again", true, y.text('#'));
    }
}
