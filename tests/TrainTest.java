/** Promise 9: train. */
public final class TrainTest {
    private static final Check CHECK = new Check();

    public static void main(String[] args) {
        wrongNumbers();
        eachState();
        downTheLine();
        aStateBeginsAnew();
        aNewCrew();
        CHECK.end();
    }

    private static void properties(LineDispatcher x, int train, int... due) {
        for (int what = 0; what < 10; what++) {
            CHECK.due("at " + x.count(0) + " train(" + train + ", " + what + ")", x.train(train, what), due[what]);
        }
    }

    private static void wrongNumbers() {
        LineDispatcher x = CHECK.line("L5;T0>1p1@9;T0>1p1@9");
        int[] trains = {-1, 2, 9, 10, 11, Integer.MIN_VALUE, Integer.MAX_VALUE};
        for (int train : trains) CHECK.due("train(" + train + ", 0)", x.train(train, 0), -1);
        int[] whats = {-1, 10, Integer.MIN_VALUE, Integer.MAX_VALUE};
        for (int what : whats) CHECK.due("train(1, " + what + ")", x.train(1, what), -1);
        CHECK.due("train(2, 10)", x.train(2, 10), -1);
    }

    private static void eachState() {
        LineDispatcher x = CHECK.line("L5,7;S1:2r;T0>2p3@2+1h9");
        properties(x, 0, 0, -5, 3, 2, 1, 9, 2, -5, -5, 0);
        CHECK.until(x, 2);
        properties(x, 0, 2, 0, 3, 2, 1, 9, 2, 8, 2, 0);
        CHECK.until(x, 8);
        properties(x, 0, 3, 1, 3, 2, 1, 9, 8, 18, -5, 1);
        CHECK.until(x, 17);
        properties(x, 0, 3, 1, 3, 2, 1, 9, 8, 18, -5, 1);
        CHECK.until(x, 18);
        properties(x, 0, 2, 1, 3, 2, 1, 9, 18, 26, 18, 1);
        CHECK.until(x, 26);
        properties(x, 0, 4, -5, 3, 2, 1, 9, 26, -5, -5, 1);
        CHECK.text(x, "T0>2p9@30", 1);
        CHECK.due("cancel(1)", x.cancel(1), 1);
        properties(x, 1, 5, -5, 9, 30, 0, 480, 26, -5, -5, 0);
    }

    private static void downTheLine() {
        LineDispatcher x = CHECK.line("L5,7;T2>0p1@0;T0>2p2@0;S1:4");
        CHECK.until(x, 1);
        properties(x, 0, 2, 1, 1, 0, 0, 480, 1, 8, 1, 0);
        properties(x, 1, 2, 0, 2, 0, 0, 480, 1, 6, 1, 0);
        CHECK.until(x, 6);
        properties(x, 1, 1, 1, 2, 0, 0, 480, 6, -5, 1, 0);
        CHECK.until(x, 8);
        properties(x, 0, 2, 0, 1, 0, 0, 480, 8, 13, 1, 0);
        properties(x, 1, 2, 1, 2, 0, 0, 480, 8, 15, 1, 0);
        CHECK.until(x, 20);
        properties(x, 0, 4, -5, 1, 0, 0, 480, 13, -5, -5, 0);
        properties(x, 1, 4, -5, 2, 0, 0, 480, 15, -5, -5, 0);
    }

    private static void aStateBeginsAnew() {
        LineDispatcher x = CHECK.line("L5,5;T0>2p9@0;T0>1p1@2h10");
        CHECK.until(x, 5);
        properties(x, 1, 1, 0, 1, 2, 0, 10, 2, -5, 2, 0);
        CHECK.until(x, 6);
        properties(x, 1, 2, 0, 1, 2, 0, 10, 6, 11, 2, 0);
        LineDispatcher y = CHECK.line("L5,5;T0>2p9@0;T0>1p1@2h8");
        CHECK.until(y, 6);
        properties(y, 1, 3, 0, 1, 2, 0, 8, 6, 36, -5, 1);
    }

    /** A state begins anew when a relief has ended and the train cannot go on. */
    private static void aNewCrew() {
        LineDispatcher x = CHECK.line("L5,5;S1:2r;T0>2p1@0h9;T2>1p9@14");
        CHECK.until(x, 15);
        properties(x, 0, 3, 1, 1, 0, 0, 9, 6, 16, -5, 1);
        CHECK.until(x, 16);
        properties(x, 0, 1, 1, 1, 0, 0, 9, 16, -5, 16, 1);
        CHECK.until(x, 18);
        properties(x, 0, 1, 1, 1, 0, 0, 9, 16, -5, 16, 1);
        CHECK.until(x, 19);
        properties(x, 0, 2, 1, 1, 0, 0, 9, 19, 24, 16, 1);
    }
}
