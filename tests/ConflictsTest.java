/** Promise 19: conflicts. A line as the document lets it run has none: the second look must find that, too. */
public final class ConflictsTest {
    private static final Check CHECK = new Check();

    public static void main(String[] args) {
        withoutLine();
        busyLine();
        oneLeavesAsTheOtherEnters();
        CHECK.end();
    }

    private static void withoutLine() {
        LineDispatcher x = new LineDispatcher();
        CHECK.due("conflicts()", x.conflicts(), 0);
        CHECK.text(x, "L5", 1);
        CHECK.due("conflicts()", x.conflicts(), 0);
    }

    private static void busyLine() {
        LineDispatcher x = CHECK.line("L6,9,4;S1:1r;W8;T0>3p2@0h15;T3>0p5@2+1h20;T0>2p7@4");
        CHECK.text(x, "T0>1p2@0h15;T2>0p5@2;T2>3p7@4;T1>3p5@6", 4);
        for (int minute = 0; minute < 200; minute += 7) {
            CHECK.until(x, minute);
            CHECK.due("at " + minute + " conflicts()", x.conflicts(), 0);
        }
    }

    private static void oneLeavesAsTheOtherEnters() {
        LineDispatcher x = CHECK.line("L5,5;S0:4;T0>2p1@0;T0>2p1@0;T0>1p1@0;T1>0p9@6");
        CHECK.until(x, 6);
        CHECK.due("one arrives and another enters", x.held(0, 6), 3);
        CHECK.due("one arrived from the same block", x.timetable(0, 1, 0), 6);
        CHECK.due("conflicts()", x.conflicts(), 0);
        CHECK.until(x, 60);
        CHECK.due("all have ended", x.count(4), 4);
        CHECK.due("conflicts()", x.conflicts(), 0);
    }
}
