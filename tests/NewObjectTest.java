/** Promise 1: a new object, and the constants. */
public final class NewObjectTest {
    private static final Check CHECK = new Check();

    public static void main(String[] args) {
        constants();
        countsOfANewObject();
        questionsWithoutLine();
        callsWithoutLine();
        objectsAreApart();
        CHECK.end();
    }

    private static void constants() {
        CHECK.due("NONE", LineDispatcher.NONE, -1);
        CHECK.due("BAD", LineDispatcher.BAD, -2);
        CHECK.due("STATE", LineDispatcher.STATE, -3);
        CHECK.due("FULL", LineDispatcher.FULL, -4);
    }

    private static void countsOfANewObject() {
        LineDispatcher x = new LineDispatcher();
        int[] due = {0, 0, 0, 0, 0, 0, 60, 0, 10, 0};
        for (int what = 0; what < due.length; what++) CHECK.due("count(" + what + ")", x.count(what), due[what]);
    }

    private static void questionsWithoutLine() {
        LineDispatcher x = new LineDispatcher();
        CHECK.due("refusal(0)", x.refusal(0), -5);
        CHECK.due("train(0, 0)", x.train(0, 0), -1);
        CHECK.due("station(0, 0)", x.station(0, 0), -3);
        CHECK.due("station(-1, 9)", x.station(-1, 9), -3);
        CHECK.due("block(0, 0)", x.block(0, 0), -3);
        CHECK.due("block(-1, 9)", x.block(-1, 9), -3);
        CHECK.due("why(0, 0)", x.why(0, 0), -1);
        CHECK.due("order(-1)", x.order(-1), 0);
        CHECK.due("order(0)", x.order(0), -1);
        CHECK.due("timetable(0, 0, 0)", x.timetable(0, 0, 0), -1);
        CHECK.due("drift()", x.drift(), -5);
        CHECK.due("ahead(1, 0)", x.ahead(1, 0), -3);
        CHECK.due("ahead(0, 9)", x.ahead(0, 9), -3);
        CHECK.due("held(0, 0)", x.held(0, 0), -3);
        CHECK.due("held(-1, -1)", x.held(-1, -1), -3);
        CHECK.due("conflicts()", x.conflicts(), 0);
        CHECK.due("account(0, 0)", x.account(0, 0), -1);
    }

    private static void callsWithoutLine() {
        LineDispatcher x = new LineDispatcher();
        CHECK.due("cancel(0)", x.cancel(0), -1);
        CHECK.due("lift(0)", x.lift(0), -1);
        CHECK.due("pass(1)", x.pass(1), -3);
        CHECK.due("pass(0)", x.pass(0), -3);
        CHECK.due("plan(1)", x.plan(1), -3);
        CHECK.due("plan(501)", x.plan(501), -3);
        CHECK.due("undo()", x.undo(), -3);
        CHECK.due("relief(7)", x.relief(7), 10);
        CHECK.due("image()", x.image(), 0);
        CHECK.due("undo()", x.undo(), 0);
        CHECK.due("count(8)", x.count(8), 7);
        CHECK.text(x, "W5", 1);
        CHECK.due("count(6)", x.count(6), 5);
    }

    private static void objectsAreApart() {
        LineDispatcher x = CHECK.line("L5,6;T0>1p1@0");
        LineDispatcher y = new LineDispatcher();
        CHECK.due("y.count(1)", y.count(1), 0);
        CHECK.text(y, "L9", 1);
        CHECK.due("x.count(1)", x.count(1), 3);
        CHECK.due("x.block(0, 0)", x.block(0, 0), 5);
        CHECK.due("y.count(2)", y.count(2), 0);
    }
}
