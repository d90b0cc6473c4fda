/** Promise 14: plan. */
public final class PlanTest {
    private static final Check CHECK = new Check();

    public static void main(String[] args) {
        errors();
        itsMinutes();
        itChangesNothing();
        aNewPlan();
        howLongItStays();
        CHECK.end();
    }

    private static void errors() {
        LineDispatcher x = CHECK.line("L5;T0>1p1@0");
        int[] wrong = {0, -1, 501, Integer.MIN_VALUE, Integer.MAX_VALUE};
        for (int n : wrong) CHECK.due("plan(" + n + ")", x.plan(n), -2);
        CHECK.due("no plan", x.drift(), -5);
        CHECK.due("plan(1)", x.plan(1), 2);
        CHECK.due("plan(501)", x.plan(501), -2);
        CHECK.due("the plan stays", x.drift(), 0);
        CHECK.due("plan(500)", x.plan(500), 3);
    }

    private static void itsMinutes() {
        LineDispatcher x = CHECK.line("L5,7;T0>2p1@2");
        int[] minutes = {1, 2, 6, 7, 13, 14, 500};
        int[] due = {0, 2, 2, 4, 4, 5, 5};
        for (int i = 0; i < due.length; i++) CHECK.due("plan(" + minutes[i] + ")", x.plan(minutes[i]), due[i]);
        CHECK.until(x, 2);
        // What has come is no part of a plan that is made now.
        CHECK.due("plan(4) at 2", x.plan(4), 0);
        CHECK.due("plan(5) at 2", x.plan(5), 2);
        CHECK.due("plan(500) at 2", x.plan(500), 3);
        CHECK.until(x, 20);
        CHECK.due("plan(500) at 20", x.plan(500), 0);
        CHECK.due("an empty plan is a plan", x.drift(), 0);
    }

    private static void itChangesNothing() {
        LineDispatcher x = CHECK.line("L6,9,4;S1:1r;W8;T0>3p2@0h15;T3>0p5@2+1h20;T0>2p7@4");
        LineDispatcher y = CHECK.line("L6,9,4;S1:1r;W8;T0>3p2@0h15;T3>0p5@2+1h20;T0>2p7@4");
        CHECK.until(x, 11);
        CHECK.until(y, 11);
        x.plan(300);
        y.plan(1);
        x.plan(1);
        CHECK.same("after a plan", Check.all(x), Check.all(y));
        CHECK.until(x, 60);
        CHECK.until(y, 60);
        CHECK.same("after 60 minutes", Check.all(x), Check.all(y));
    }

    private static void aNewPlan() {
        LineDispatcher x = CHECK.line("L5;T0>1p1@0;T0>1p1@0");
        CHECK.due("plan(50)", x.plan(50), 6);
        CHECK.due("timetable(1, 1, 0)", x.timetable(1, 1, 0), 11);
        CHECK.due("cancel(0)", x.cancel(0), 1);
        CHECK.due("the old plan tells", x.timetable(1, 1, 0), 11);
        CHECK.due("plan(50)", x.plan(50), 3);
        CHECK.due("timetable(1, 1, 0)", x.timetable(1, 1, 0), 6);
        CHECK.due("timetable(0, 1, 0)", x.timetable(0, 1, 0), -5);
        CHECK.due("plan(5)", x.plan(5), 2);
        CHECK.due("timetable(1, 1, 0)", x.timetable(1, 1, 0), -5);
    }

    private static void howLongItStays() {
        LineDispatcher x = CHECK.line("L5,5;T0>2p1@20");
        CHECK.due("image()", x.image(), 0);
        CHECK.due("plan(50)", x.plan(50), 5);
        CHECK.text(x, "W5;S1:1;O0+1@1-2;T0>1p1@1", 4);
        CHECK.text(x, "L9;W0", -201);
        CHECK.text(x, "L9;", -103);
        CHECK.due("image()", x.image(), 0);
        CHECK.due("relief(5)", x.relief(5), 10);
        CHECK.due("lift(0)", x.lift(0), 0);
        CHECK.due("cancel(1)", x.cancel(1), 1);
        CHECK.due("pass(5)", x.pass(5), 5);
        CHECK.due("ahead(50, 0)", x.ahead(50, 0), 1);
        CHECK.due("it stays", x.timetable(0, 2, 0), 30);
        CHECK.due("it stays", x.drift(), 0);
        CHECK.due("undo()", x.undo(), 0);
        CHECK.due("not with an older state", x.timetable(0, 2, 0), -5);
        CHECK.due("not with an older state", x.drift(), -5);
        CHECK.due("plan(50)", x.plan(50), 8);
        CHECK.text(x, "L5,5;T0>2p1@20", 2);
        CHECK.due("not with a new line", x.timetable(0, 2, 0), -5);
        CHECK.due("not with a new line", x.drift(), -5);
    }
}
