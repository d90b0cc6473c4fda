/** Promise 15: timetable. */
public final class TimetableTest {
    private static final Check CHECK = new Check();

    public static void main(String[] args) {
        wrongNumbers();
        whatHasHappened();
        downTheLine();
        whatIsPlanned();
        aPlanThatDidNotCome();
        CHECK.end();
    }

    private static void wrongNumbers() {
        LineDispatcher x = CHECK.line("L5,5;T0>1p1@9");
        int[] trains = {-1, 1, 10, Integer.MIN_VALUE, Integer.MAX_VALUE};
        for (int train : trains) CHECK.due("timetable(" + train + ", 0, 0)", x.timetable(train, 0, 0), -1);
        int[] stations = {-1, 3, 8, Integer.MIN_VALUE, Integer.MAX_VALUE};
        for (int station : stations) CHECK.due("timetable(0, " + station + ", 0)", x.timetable(0, station, 0), -1);
        int[] whats = {-1, 2, Integer.MIN_VALUE, Integer.MAX_VALUE};
        for (int what : whats) CHECK.due("timetable(0, 0, " + what + ")", x.timetable(0, 0, what), -1);
        CHECK.due("timetable(0, 2, 1)", x.timetable(0, 2, 1), -5);
    }

    /** The arrivals at the stations, then the departures. */
    private static void due(LineDispatcher x, int train, int... due) {
        int stations = due.length / 2;
        for (int i = 0; i < due.length; i++) {
            String call = "at " + x.count(0) + " timetable(" + train + ", " + i % stations + ", " + i / stations + ")";
            CHECK.due(call, x.timetable(train, i % stations, i / stations), due[i]);
        }
    }

    private static void whatHasHappened() {
        LineDispatcher x = CHECK.line("L5,7;S1:2r;T0>2p1@2h9");
        due(x, 0, -5, -5, -5, -5, -5, -5);
        CHECK.until(x, 2);
        due(x, 0, 2, -5, -5, 2, -5, -5);
        CHECK.until(x, 7);
        due(x, 0, 2, 7, -5, 2, -5, -5);
        CHECK.until(x, 17);
        due(x, 0, 2, 7, -5, 2, 17, -5);
        CHECK.until(x, 24);
        due(x, 0, 2, 7, 24, 2, 17, -5);
    }

    private static void downTheLine() {
        LineDispatcher x = CHECK.line("L5,7,9;T2>1p1@0;T3>0p1@0");
        CHECK.until(x, 50);
        due(x, 0, -5, 8, 1, -5, -5, -5, 1, -5);
        due(x, 1, 22, 17, 10, 1, -5, 17, 10, 1);
    }

    private static void whatIsPlanned() {
        LineDispatcher x = CHECK.line("L5,7;S1:2r;T0>2p1@2h9");
        CHECK.due("plan(10)", x.plan(10), 3);
        due(x, 0, 2, 7, -5, 2, -5, -5);
        CHECK.due("plan(24)", x.plan(24), 5);
        due(x, 0, 2, 7, 24, 2, 17, -5);
        CHECK.until(x, 8);
        due(x, 0, 2, 7, 24, 2, 17, -5);
        // What has happened is told, whatever the plan said.
        CHECK.text(x, "O1+2@9-99", 1);
        CHECK.until(x, 17);
        due(x, 0, 2, 7, 24, 2, 17, -5);
        CHECK.until(x, 25);
        due(x, 0, 2, 7, 24, 2, 17, -5);
        CHECK.until(x, 26);
        due(x, 0, 2, 7, 26, 2, 17, -5);
    }

    private static void aPlanThatDidNotCome() {
        LineDispatcher x = CHECK.line("L5;T0>1p1@2;T0>1p1@3");
        CHECK.due("plan(20)", x.plan(20), 6);
        CHECK.due("cancel(0)", x.cancel(0), 1);
        CHECK.until(x, 50);
        due(x, 0, 2, 7, 2, -5);
        due(x, 1, 3, 8, 3, -5);
        CHECK.text(x, "T0>1p1@60", 1);
        due(x, 2, -5, -5, -5, -5);
    }
}
