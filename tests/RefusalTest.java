/** Promise 4: refusal. */
public final class RefusalTest {
    private static final Check CHECK = new Check();

    public static void main(String[] args) {
        noneExecuted();
        levels();
        theLatestText();
        whatDoesNotTouchIt();
        CHECK.end();
    }

    private static void chain(LineDispatcher x, int first, int second, int third) {
        CHECK.due("refusal(0)", x.refusal(0), first);
        CHECK.due("refusal(1)", x.refusal(1), second);
        CHECK.due("refusal(2)", x.refusal(2), third);
    }

    private static void noneExecuted() {
        LineDispatcher x = new LineDispatcher();
        chain(x, -5, -5, -5);
        CHECK.feed(x, "X");
        chain(x, -5, -5, -5);
    }

    private static void levels() {
        LineDispatcher x = new LineDispatcher();
        int[] wrong = {-1, 3, 4, Integer.MIN_VALUE, Integer.MAX_VALUE};
        for (int level : wrong) CHECK.due("refusal(" + level + ")", x.refusal(level), -1);
        CHECK.text(x, "W0", -200);
        for (int level : wrong) CHECK.due("refusal(" + level + ")", x.refusal(level), -1);
        chain(x, 0, 4, 0);
    }

    private static void theLatestText() {
        LineDispatcher x = new LineDispatcher();
        CHECK.text(x, "S0:1", -200);
        chain(x, 0, 1, -5);
        CHECK.text(x, "L5;W5;S2:1", -202);
        chain(x, 2, 2, 2);
        CHECK.text(x, "L5", 1);
        chain(x, -5, -5, -5);
        CHECK.text(x, "L5;O0+1@1-2;O0+1@1-2;O0+1@1-2;O0+1@1-2;O0+1@1-2", 6);
        CHECK.text(x, "O0+1@1-2;O0+1@1-2", -201);
        chain(x, 1, 3, 6);
        CHECK.text(x, "L5;W", -104);
        chain(x, 4, 0, -1);
        CHECK.text(x, "L5;Q", -103);
        chain(x, 3, 0, 'Q');
        CHECK.text(x, "", -100);
        chain(x, 0, 0, -1);
    }

    private static void whatDoesNotTouchIt() {
        LineDispatcher x = new LineDispatcher();
        CHECK.due("image()", x.image(), 0);
        CHECK.text(x, "L5", 1);
        CHECK.text(x, "L5;L100", -201);
        CHECK.due("pass(1)", x.pass(1), 1);
        CHECK.due("plan(1)", x.plan(1), 0);
        CHECK.due("feed(9)", x.feed(9, 0, 0, 0, 0, 0), -2);
        CHECK.feed(x, "L5");
        chain(x, 1, 4, 100);
        CHECK.due("undo()", x.undo(), 0);
        chain(x, 1, 4, 100);
        CHECK.due("execute()", x.execute(), 1);
        chain(x, -5, -5, -5);
        CHECK.due("undo()", x.undo(), 0);
        chain(x, -5, -5, -5);
    }
}
