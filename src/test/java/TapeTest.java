/** Promises 1 and 2: a new object, and what comes onto the tape. */
public final class TapeTest {
    /** What stands behind this on the tape is a reason, and so can be read as it came. */
    private static final String BEFORE_REASON = "case a\nskip ";

    public static void main(String[] args) {
        newObject();
        nothingOnItsTape();
        highestByteFirst();
        eachCharacter();
        noneComeWithAWrongOne();
        room();
        refusedForBoth();
        roomAgain();
        fiveHundredAndTwelveCalls();
        Checks.end();
    }

    private static void newObject() {
        Checks.sentence("No TESTS, nothing on the TAPE");
        TestFinder x = new TestFinder();
        Checks.dueCounts(x, 0, 0, 0);
        for (int what = 0; what <= 8; what++) {
            Checks.due("new: test(0, " + what + ")", -1, x.test(0, what));
        }
        Checks.due("new: letter", -1, x.letter(0, 0));
        Checks.due("new: reason", -1, x.reason(0, 0));
        Checks.due("new: passes", false, x.passes(0));
        Checks.due("new: passing", 0, x.passing());
        Checks.due("new: judge passed", -1, x.judge(0, true));
        Checks.due("new: judge failed", -1, x.judge(0, false));
        Checks.due("new: find", -1, x.find());
    }

    private static void nothingOnItsTape() {
        Checks.sentence("No TESTS, nothing on the TAPE");
        Checks.due("filter of nothing", 0, new TestFinder().filter());
        TestFinder x = new TestFinder();
        Checks.due("script of nothing", -1, x.script());
        Checks.dueCounts(x, 0, 0, 0);
        Checks.due("script", -1, Checks.script(x, "case a"));
        Checks.due("name", "a", Checks.name(x, 0));
        Checks.due("1200 have room", -1, Checks.script(new TestFinder(), "#".repeat(1200)));
    }

    private static void highestByteFirst() {
        Checks.sentence("Up to eight characters come onto the TAPE, the highest byte first, 0 ones being left out");
        TestFinder x = new TestFinder();
        Checks.due("zeros alone", true, x.text(0));
        Checks.due("zeros between", true, x.text(0x6300610000730065L));
        Checks.due("zeros behind", true, x.text(0x2061620000000000L));
        Checks.due("zeros before", true, x.text(0x63L));
        Checks.due("eight", true, x.text(0x6465666768696a6bL));
        Checks.due("script", -1, x.script());
        Checks.due("name", "abcdefghijk", Checks.name(x, 0));
    }

    /** In each of the eight places, the others full. */
    private static void eachCharacter() {
        Checks.sentence("false, and none come, if one is neither 10 nor 32 .. 126");
        for (int c = 0; c < 256; c++) {
            for (int place = 0; place < 8; place++) {
                String eight = "rstuvwxy".substring(0, place) + (char) c + "rstuvwxy".substring(place + 1);
                boolean may = c == 0 || c == 10 || c >= 32 && c <= 126;
                TestFinder x = Checks.put(BEFORE_REASON + "(");
                Checks.due("text of " + c + " at place " + place, may, x.text(Checks.pack(eight)));
                Checks.put(x, ")");
                dueReason(x, may ? "(" + eight.replace("\0", "") + ")" : "()");
            }
        }
    }

    /** A reason that is cut by a line's end goes on in a line that is ill. */
    private static void dueReason(TestFinder x, String want) {
        if (want.contains("\n")) {
            Checks.due("script cut in two", 2, x.script());
        } else {
            Checks.due("script", -1, x.script());
            Checks.due("all that came", want, Checks.reason(x, 0));
        }
    }

    private static void noneComeWithAWrongOne() {
        Checks.sentence("false, and none come, if one is neither 10 nor 32 .. 126");
        TestFinder x = Checks.put("case a");
        Checks.due("a wrong one behind", false, x.text(Checks.pack("bcdefg\n\t")));
        Checks.due("a wrong one before", false, x.text(Checks.pack("\177bcdefgh")));
        Checks.due("a high one", false, x.text(0xff62636465666768L));
        Checks.due("all wrong", false, x.text(-1L));
        Checks.due("the highest bit", false, x.text(Long.MIN_VALUE));
        Checks.due("the most that there is", false, x.text(Long.MAX_VALUE));
        Checks.due("wrong beside zeros", false, x.text(1L));
        Checks.due("script", -1, x.script());
        Checks.due("name", "a", Checks.name(x, 0));
    }

    /** Every choice of which of the eight bytes are characters, with room for 0 to 8. */
    private static void room() {
        Checks.sentence("false, and none come, if .. there is no room (1200)");
        for (int room = 0; room <= 8; room++) {
            for (int mask = 0; mask < 256; mask++) {
                dueRoom(room, mask);
            }
        }
    }

    private static void dueRoom(int room, int mask) {
        int before = 1200 - BEFORE_REASON.length() - room;
        TestFinder x = Checks.put(BEFORE_REASON + "x".repeat(before));
        long w = 0;
        for (int i = 0; i < 8; i++) {
            w |= (mask >> i & 1) == 0 ? 0 : (long) ('a' + i) << 8 * i;
        }
        int coming = Integer.bitCount(mask);
        int came = coming <= room ? coming : 0;
        Checks.due(coming + " into room for " + room, coming <= room, x.text(w));
        if (came < room) {
            Checks.due("the rest of the room", true, x.text(Checks.pack("!".repeat(room - came))));
        }
        Checks.due("one more", false, x.text('!'));
        Checks.due("none more", true, x.text(0));
        Checks.due("script", -1, x.script());
        StringBuilder end = new StringBuilder("x");
        for (int i = 7; i >= 0 && came > 0; i--) {
            end.append((mask >> i & 1) == 0 ? "" : "" + (char) ('a' + i));
        }
        end.append("!".repeat(room - came));
        for (int i = 0; i < end.length(); i++) {
            Checks.due("what came", end.charAt(i), x.reason(0, before - 1 + i));
        }
        Checks.due("and no more", -1, x.reason(0, before - 1 + end.length()));
    }

    private static void refusedForBoth() {
        Checks.sentence("false, and none come, if one is neither 10 nor 32 .. 126, or there is no room (1200)");
        TestFinder x = Checks.put("#".repeat(1199));
        Checks.due("wrong, with room", false, x.text(127));
        Checks.due("right, without room", false, x.text(Checks.pack("##")));
        Checks.due("wrong, without room", false, x.text(Checks.pack("#\t")));
        Checks.due("the last one", true, x.text(10));
        Checks.due("wrong, full", false, x.text(9));
        Checks.due("right, full", false, x.text(10));
        Checks.due("script", -1, x.script());
    }

    /** After each of the calls that empty the tape, 1200 characters come, and no more. */
    private static void roomAgain() {
        Checks.sentence("The TAPE becomes the SCRIPT (the FILTER, a NAME), and is empty then");
        for (int call = 0; call < 3; call++) {
            TestFinder x = Checks.put("#".repeat(1200));
            Checks.due("the call on a full tape", call == 1 ? 120 : -1,
                    call == 0 ? x.script() : call == 1 ? x.filter() : x.find());
            Checks.put(x, "case a\n" + "#".repeat(1193));
            Checks.due("one more", false, x.text('#'));
            Checks.due("script", -1, x.script());
            Checks.dueCounts(x, 0, 1, 1);
        }
    }

    private static void fiveHundredAndTwelveCalls() {
        Checks.sentence("An object is used for at most 512 calls after it has been made");
        TestFinder x = Checks.put("case ab");
        Checks.due("call 2", -1, x.script());
        for (int call = 3; call <= 508; call += 2) {
            Checks.due("call " + call, true, x.text('?'));
            Checks.due("call " + (call + 1), -1, x.filter());
        }
        Checks.due("call 509", 0, x.passing());
        Checks.due("call 510", 'b', x.letter(0, 1));
        Checks.due("call 511", false, x.text(Checks.pack("a\t")));
        Checks.due("call 512", 0, x.filter());
    }
}
