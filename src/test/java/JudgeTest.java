/** Promise 12: how a test's end is judged. */
public final class JudgeTest {
    private static final String SCRIPT = "case a\ncase b\nfails\ncase c\nskip x\ncase d\nskip x\nfails";

    public static void main(String[] args) {
        skipped();
        expectedToFail();
        neither();
        eachOfATable();
        aFilterChangesNothing();
        noneSuch();
        Checks.end();
    }

    private static void dueJudged(TestFinder x, int test, int passed, int failed) {
        Checks.due("judge(" + test + ", true)", passed, x.judge(test, true));
        Checks.due("judge(" + test + ", false)", failed, x.judge(test, false));
    }

    private static void skipped() {
        Checks.sentence("a TEST that is skipped: 3, however it ended");
        dueJudged(Checks.finder(SCRIPT), 2, 3, 3);
        dueJudged(Checks.finder(SCRIPT), 3, 3, 3);
        dueJudged(Checks.finder("case d\nfails\nskip x"), 0, 3, 3);
    }

    private static void expectedToFail() {
        Checks.sentence("Else, expected to fail: 1 if it failed, 4 if it passed");
        dueJudged(Checks.finder(SCRIPT), 1, 4, 1);
    }

    private static void neither() {
        Checks.sentence("Else 0 if it passed, 2 if it failed");
        dueJudged(Checks.finder(SCRIPT), 0, 0, 2);
        dueJudged(Checks.finder("case a\nsize 9\ntag t\nwith p 1"), 0, 0, 2);
    }

    private static void eachOfATable() {
        Checks.sentence("JUDGING a TEST: 0 to 4");
        TestFinder x = Checks.finder("case a\nwith p 1 2\nfails\nsuite s\ncase b\nwith p 1 2\nskip x\ncase c\nwith p 1 2");
        for (int test = 0; test < 6; test++) {
            dueJudged(x, test, test < 2 ? 4 : test < 4 ? 3 : 0, test < 2 ? 1 : test < 4 ? 3 : 2);
        }
        TestFinder full = Checks.finder(Checks.fullScript() + "fails");
        dueJudged(full, 0, 0, 2);
        dueJudged(full, 95, 0, 2);
        dueJudged(full, 96, 4, 1);
        dueJudged(full, 119, 4, 1);
        dueJudged(full, 120, -1, -1);
    }

    private static void aFilterChangesNothing() {
        Checks.sentence("JUDGING a TEST: 0 to 4");
        TestFinder x = Checks.finder(SCRIPT, "<1");
        dueJudged(x, 0, 0, 2);
        dueJudged(x, 1, 4, 1);
        dueJudged(x, 2, 3, 3);
        dueJudged(x, 3, 3, 3);
    }

    private static void noneSuch() {
        Checks.sentence("NONE if there is none such");
        TestFinder x = Checks.finder(SCRIPT);
        for (int test : Checks.FAR) {
            dueJudged(x, test, -1, -1);
        }
        dueJudged(x, 4, -1, -1);
        dueJudged(x, 120, -1, -1);
        dueJudged(new TestFinder(), 0, -1, -1);
        Checks.due("an ill script", 2, Checks.script(x, "case a\nskip x\nx"));
        dueJudged(x, 0, -1, -1);
        Checks.due("an empty script", -1, x.script());
        dueJudged(x, 0, -1, -1);
    }
}
