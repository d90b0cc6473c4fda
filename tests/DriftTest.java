/** Promise 16: drift. */
public final class DriftTest {
    private static final Check CHECK = new Check();

    public static void main(String[] args) {
        noPlan();
        asPlanned();
        later();
        earlier();
        notPlanned();
        outsideItsMinutes();
        CHECK.end();
    }

    private static void noPlan() {
        LineDispatcher x = CHECK.line("L5;T0>1p1@0");
        CHECK.drift(x, 10, -5);
    }

    private static void asPlanned() {
        LineDispatcher x = CHECK.line("L6,9,4;S1:1r;W8;T0>3p2@0h15;T3>0p5@2+1h20;T0>2p7@4");
        CHECK.until(x, 3);
        x.plan(100);
        for (int minute = 3; minute < 120; minute += 9) CHECK.drift(x, minute, 0);
    }

    private static void later() {
        LineDispatcher x = CHECK.line("L5,5;T0>2p1@3");
        // Planned: 3 and 3, 8 and 8, 13. It will be 3 and 3, 10 and 10, 15.
        CHECK.due("plan(50)", x.plan(50), 5);
        CHECK.text(x, "O0+2@0-9", 1);
        CHECK.drift(x, 7, 0);
        CHECK.drift(x, 8, 2);
        CHECK.drift(x, 12, 2);
        CHECK.drift(x, 13, 3);
        CHECK.drift(x, 60, 3);
        CHECK.due("plan(5)", x.plan(5), 0);
        CHECK.drift(x, 60, 0);
    }

    private static void earlier() {
        LineDispatcher x = CHECK.line("L5,5;T0>2p1@3;O0+2@0-9");
        CHECK.due("plan(50)", x.plan(50), 5);
        CHECK.due("lift(0)", x.lift(0), 0);
        CHECK.drift(x, 7, 0);
        CHECK.drift(x, 8, 2);
        CHECK.drift(x, 12, 2);
        CHECK.drift(x, 13, 3);
    }

    private static void notPlanned() {
        LineDispatcher x = CHECK.line("L5,5;T0>2p1@3");
        CHECK.due("plan(12)", x.plan(12), 4);
        CHECK.text(x, "T2>1p9@2", 1);
        CHECK.drift(x, 1, 0);
        // The new train comes and enters its block at 2, and comes into station 1 at 7; train 0 finds block 1 free then.
        CHECK.drift(x, 2, 2);
        CHECK.drift(x, 7, 3);
        CHECK.drift(x, 50, 3);
    }

    private static void outsideItsMinutes() {
        LineDispatcher x = CHECK.line("L5,5;T0>2p1@3");
        CHECK.due("plan(7)", x.plan(7), 2);
        CHECK.text(x, "T2>1p9@8;T0>1p9@7", 2);
        // The arrivals and departures of minute 8 are outside, so are those of the new train; train 2 comes at 7.
        CHECK.drift(x, 6, 0);
        CHECK.drift(x, 7, 1);
        CHECK.drift(x, 50, 1);
        // What was planned, and comes after the plan's minutes, counts when it was due.
        LineDispatcher y = CHECK.line("L5;T0>1p1@3");
        CHECK.due("plan(8)", y.plan(8), 3);
        CHECK.text(y, "O0+1@0-9", 1);
        CHECK.drift(y, 7, 0);
        CHECK.drift(y, 8, 1);
        CHECK.drift(y, 9, 1);
        CHECK.drift(y, 50, 1);
        // What came before the plan was made does not count.
        LineDispatcher z = CHECK.line("L5;T0>1p1@3");
        CHECK.until(z, 3);
        CHECK.due("plan(4)", z.plan(4), 0);
        CHECK.drift(z, 3, 0);
        CHECK.drift(z, 50, 0);
    }
}
