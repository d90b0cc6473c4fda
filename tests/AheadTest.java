/** Promise 17: ahead. */
public final class AheadTest {
    private static final Check CHECK = new Check();

    public static void main(String[] args) {
        errors();
        trains();
        waiting();
        quiet();
        quietOutside();
        quietInStations();
        itChangesNothing();
        CHECK.end();
    }

    private static void ahead(LineDispatcher x, int n, int... due) {
        for (int what = 0; what < due.length; what++) {
            CHECK.due("at " + x.count(0) + " ahead(" + n + ", " + what + ")", x.ahead(n, what), due[what]);
        }
    }

    private static void errors() {
        LineDispatcher x = CHECK.line("L5");
        int[] wrong = {0, -1, 501, Integer.MIN_VALUE, Integer.MAX_VALUE};
        for (int n : wrong) {
            CHECK.due("ahead(" + n + ", 0)", x.ahead(n, 0), -2);
            CHECK.due("ahead(" + n + ", 9)", x.ahead(n, 9), -2);
        }
        int[] whats = {-1, 4, Integer.MIN_VALUE, Integer.MAX_VALUE};
        for (int what : whats) CHECK.due("ahead(1, " + what + ")", x.ahead(1, what), -1);
        ahead(x, 1, 0, 0, 0, 1);
        ahead(x, 500, 0, 0, 0, 1);
    }

    private static void trains() {
        LineDispatcher x = CHECK.line("L5,5;T0>2p1@0;T2>1p1@2;T0>1p1@30;T0>1p1@9");
        CHECK.due("cancel(3)", x.cancel(3), 1);
        ahead(x, 1, 0, 1, 0, 0);
        ahead(x, 2, 0, 2, 0, 0);
        ahead(x, 7, 1, 1, 1, 0);
        ahead(x, 12, 2, 0, 1, 0);
        ahead(x, 30, 2, 1, 1, 0);
        ahead(x, 34, 2, 1, 1, 0);
        ahead(x, 35, 3, 0, 1, 1);
        CHECK.until(x, 10);
        ahead(x, 1, 1, 1, 1, 0);
        ahead(x, 25, 3, 0, 1, 1);
    }

    private static void waiting() {
        LineDispatcher x = CHECK.line("L5,5;S1:1r;T0>2p9@0h9;T0>1p1@0;T0>1p2@3h1;T0>1p1@4");
        // Train 1 waits from 1 to 6, train 2 from 3 on, train 3 from 7 to 11; train 0 is in relief from 6 to 16.
        ahead(x, 5, 0, 1, 4 + 2, 0);
        ahead(x, 6, 0, 1, 5 + 3, 0);
        ahead(x, 20, 2, 1, 5 + 17 + 4, 0);
        CHECK.until(x, 10);
        ahead(x, 10, 2, 1, 5 + 17 + 4, 0);
        ahead(x, 30, 3, 0, 5 + 37 + 4, 1);
    }

    private static void quiet() {
        LineDispatcher x = CHECK.line("L5,5;S1:1r;T0>2p9@0h9");
        ahead(x, 6, 0, 0, 0, 0);
        ahead(x, 15, 0, 0, 0, 0);
        ahead(x, 16, 0, 1, 0, 0);
        ahead(x, 20, 0, 1, 0, 0);
        ahead(x, 21, 1, 0, 0, 1);
    }

    private static void quietOutside() {
        LineDispatcher x = CHECK.line("L5;S0:1;T0>1p1@0h1;T0>1p1@5");
        ahead(x, 4, 0, 0, 3, 0);
        ahead(x, 5, 0, 0, 4, 1);
        CHECK.until(x, 5);
        CHECK.text(x, "S0:2", 1);
        ahead(x, 1, 0, 1, 5, 0);
        ahead(x, 6, 1, 0, 10, 1);
        // A track that becomes free in the minute itself is not used in it.
        LineDispatcher y = CHECK.line("L5,5;S1:1;T1>2p1@0;T1>2p1@0");
        ahead(y, 1, 0, 1, 0, 0);
    }

    private static void quietInStations() {
        LineDispatcher x = CHECK.line("L5,5;S1:1;T0>2p1@0;T1>2p1@0h4");
        // Train 1 never runs, and train 0 never finds a track.
        ahead(x, 50, 0, 0, 98, 1);
        CHECK.until(x, 50);
        CHECK.text(x, "S1:2", 1);
        ahead(x, 11, 1, 0, 98 + 1 + 11, 1);
        LineDispatcher y = CHECK.line("L5,5;S1:1;T0>2p9@0;T1>2p1@0");
        CHECK.until(y, 6);
        ahead(y, 1, 1, 1, 1, 0);
        // A crew that is the only reason goes on; one with too few hours for the block alone does not.
        LineDispatcher z = CHECK.line("L5;T0>1p1@0h5;O0+9@0-2");
        ahead(z, 1, 0, 0, 0, 1);
        LineDispatcher v = CHECK.line("L5;T0>1p1@0h5;O0+9@1-2");
        ahead(v, 2, 0, 0, 1, 0);
    }

    private static void itChangesNothing() {
        LineDispatcher x = CHECK.line("L6,9,4;S1:1r;W8;T0>3p2@0h15;T3>0p5@2+1h20;T0>2p7@4");
        CHECK.until(x, 11);
        CHECK.due("plan(9)", x.plan(9), x.plan(9));
        String before = Check.all(x);
        for (int what = 0; what < 4; what++) x.ahead(200, what);
        CHECK.same("after forecasts", Check.all(x), before);
    }
}
