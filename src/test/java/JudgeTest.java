/** Promise 12: how a test's end is judged. */
public final class JudgeTest {
    public static void main(String[] args) {
        TestFinder x = Checks.finder("case a\ncase b\nfails\ncase c\nskip x\ncase d\nskip x\nfails");
        int[] passed = {0, 4, 3, 3};
        int[] failed = {2, 1, 3, 3};
        dueJudged(x, passed, failed);
        Checks.due("a filter changes nothing", -1, Checks.filter(x, "<1"));
        dueJudged(x, passed, failed);
        for (int test : new int[] {-1, 4, 120, Integer.MAX_VALUE, Integer.MIN_VALUE}) {
            Checks.due("judge(" + test + ", true)", -1, x.judge(test, true));
            Checks.due("judge(" + test + ", false)", -1, x.judge(test, false));
        }
        Checks.due("an ill script", 0, Checks.script(x, "x"));
        Checks.due("no tests", -1, x.judge(0, true));
        Checks.end();
    }

    private static void dueJudged(TestFinder x, int[] passed, int[] failed) {
        for (int test = 0; test < 4; test++) {
            Checks.due("judge(" + test + ", true)", passed[test], x.judge(test, true));
            Checks.due("judge(" + test + ", false)", failed[test], x.judge(test, false));
        }
    }
}
