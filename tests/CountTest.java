/** Promise 23: count. */
public final class CountTest {
    private static final Check CHECK = new Check();

    public static void main(String[] args) {
        wrongNumbers();
        counts();
        theLongestStay();
        CHECK.end();
    }

    private static void counts(LineDispatcher x, int... due) {
        for (int what = 0; what < 10; what++) CHECK.due("at " + x.count(0) + " count(" + what + ")", x.count(what), due[what]);
    }

    private static void wrongNumbers() {
        LineDispatcher x = CHECK.line("L5");
        int[] wrong = {-1, 10, Integer.MIN_VALUE, Integer.MAX_VALUE};
        for (int what : wrong) CHECK.due("count(" + what + ")", x.count(what), -1);
    }

    private static void counts() {
        LineDispatcher x = CHECK.line("L5,5,5,5,5,5,5;W7;O0+1@0-2;O1+1@0-2");
        CHECK.text(x, "T0>1p1@0;T0>1p1@3;T0>1p1@9", 3);
        CHECK.due("relief(33)", x.relief(33), 10);
        counts(x, 0, 8, 3, 3, 0, 2, 7, 0, 33, 0);
        CHECK.due("cancel(2)", x.cancel(2), 1);
        CHECK.due("lift(0)", x.lift(0), 1);
        CHECK.feed(x, "W1234");
        counts(x, 0, 8, 3, 2, 0, 1, 7, 5, 33, 0);
        CHECK.until(x, 1);
        counts(x, 1, 8, 3, 1, 0, 1, 7, 5, 33, 0);
        CHECK.until(x, 5);
        counts(x, 5, 8, 3, 0, 0, 1, 7, 5, 33, 2);
        CHECK.until(x, 7);
        counts(x, 7, 8, 3, 0, 1, 1, 7, 5, 33, 0);
        CHECK.until(x, 50);
        counts(x, 50, 8, 3, 0, 2, 1, 7, 5, 33, 0);
        CHECK.due("execute()", x.execute(), 1);
        counts(x, 50, 8, 3, 0, 2, 1, 1234, 0, 33, 0);
    }

    private static void theLongestStay() {
        LineDispatcher x = CHECK.line("L5,5;S1:2r;T0>2p1@0h9;T2>1p1@14h4");
        int[] minutes = {1, 5, 6, 7, 15, 16, 17, 21};
        // Train 0 is in station 1 from 6 to 16, train 1 in station 2 from 14 on.
        int[] due = {0, 0, 0, 1, 9, 2, 3, 7};
        for (int i = 0; i < due.length; i++) {
            CHECK.until(x, minutes[i]);
            CHECK.due("at " + minutes[i] + " count(9)", x.count(9), due[i]);
        }
    }
}
