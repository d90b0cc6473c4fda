/** Promise 22: undo, with the section Snapshot. */
public final class UndoTest {
    private static final Check CHECK = new Check();
    private static final String BUSY = "L6,9,4;S1:1r;W8;T0>3p2@0h15;T3>0p5@2+1h20;T0>2p7@4";

    public static void main(String[] args) {
        noSnapshot();
        everythingComesBack();
        theOldLineComesBack();
        whatFollowsIsTheSame();
        itStays();
        whatItDoesNotContain();
        toNoLine();
        CHECK.end();
    }

    private static void noSnapshot() {
        LineDispatcher x = CHECK.line(BUSY);
        CHECK.until(x, 5);
        String before = Check.all(x);
        CHECK.due("undo()", x.undo(), -3);
        CHECK.same("after undo without a snapshot", Check.all(x), before);
        CHECK.due("plan(9)", x.plan(9), x.plan(9));
        CHECK.due("undo()", x.undo(), -3);
        CHECK.due("the plan stays", x.drift(), 0);
    }

    private static LineDispatcher slowed() {
        LineDispatcher x = CHECK.line(BUSY);
        CHECK.text(x, "O0+1@0-99;O1+2@0-99", 2);
        CHECK.until(x, 13);
        CHECK.due("relief(7)", x.relief(7), 10);
        return x;
    }

    private static void everythingComesBack() {
        LineDispatcher x = slowed();
        String before = Check.all(x);
        CHECK.due("image()", x.image(), 13);
        CHECK.text(x, "W3;S0:4r;S2:3;T0>1p1@99;O2+5@1-99", 5);
        CHECK.due("cancel(3)", x.cancel(3), 1);
        CHECK.due("lift(0)", x.lift(0), 2);
        CHECK.due("relief(1)", x.relief(1), 7);
        CHECK.until(x, 300);
        CHECK.due("undo()", x.undo(), 13);
        CHECK.same("after undo", Check.all(x), before);
    }

    private static void theOldLineComesBack() {
        LineDispatcher x = slowed();
        String before = Check.all(x);
        CHECK.due("image()", x.image(), 13);
        CHECK.text(x, "L5;T1>0p1@20", 2);
        CHECK.until(x, 60);
        CHECK.due("undo()", x.undo(), 13);
        CHECK.same("after undo of a new line", Check.all(x), before);
    }

    private static void whatFollowsIsTheSame() {
        LineDispatcher x = CHECK.line(BUSY);
        LineDispatcher y = CHECK.line(BUSY);
        CHECK.until(x, 13);
        CHECK.due("image()", x.image(), 13);
        CHECK.until(x, 200);
        CHECK.due("undo()", x.undo(), 13);
        CHECK.until(x, 70);
        CHECK.until(y, 70);
        CHECK.same("after 70 minutes", Check.all(x), Check.all(y));
    }

    private static void itStays() {
        LineDispatcher x = CHECK.line(BUSY);
        CHECK.until(x, 6);
        String before = Check.all(x);
        CHECK.due("image()", x.image(), 6);
        for (int i = 0; i < 2; i++) {
            CHECK.until(x, 20 + i);
            CHECK.text(x, "W9", 1);
            CHECK.due("undo()", x.undo(), 6);
            CHECK.same("after undo " + i, Check.all(x), before);
        }
    }

    private static void whatItDoesNotContain() {
        LineDispatcher x = CHECK.line(BUSY);
        CHECK.due("plan(50)", x.plan(50), x.plan(50));
        CHECK.text(x, "W0", -200);
        CHECK.feed(x, "W5");
        CHECK.due("image()", x.image(), 0);
        CHECK.due("execute()", x.execute(), 1);
        CHECK.text(x, "L0", -200);
        CHECK.text(x, "Q", -100);
        CHECK.feed(x, "W77");
        CHECK.due("undo()", x.undo(), 0);
        CHECK.due("the tape is as it was", x.count(7), 3);
        CHECK.due("the refusal is as it was", x.refusal(2), 'Q');
        CHECK.due("the plan has gone", x.drift(), -5);
        CHECK.due("the bound came back", x.count(6), 8);
        CHECK.due("execute()", x.execute(), 1);
        CHECK.due("the bound of the tape", x.count(6), 77);
        CHECK.due("no refusal", x.refusal(0), -5);
        // An undo does not bring a plan that was there when the snapshot was taken.
        CHECK.due("timetable(0, 0, 0)", x.timetable(0, 0, 0), -5);
    }

    private static void toNoLine() {
        LineDispatcher x = new LineDispatcher();
        CHECK.due("image()", x.image(), 0);
        CHECK.text(x, BUSY, 6);
        CHECK.until(x, 9);
        CHECK.due("undo()", x.undo(), 0);
        CHECK.due("count(1)", x.count(1), 0);
        CHECK.due("pass(1)", x.pass(1), -3);
        CHECK.due("train(0, 0)", x.train(0, 0), -1);
        CHECK.due("count(6)", x.count(6), 60);
        CHECK.refused(x, "S0:1", 0, 1, -5);
    }
}
