/** Promise 13: order. */
public final class OrderTest {
    private static final Check CHECK = new Check();

    public static void main(String[] args) {
        positions();
        orders();
        withoutReliefs();
        CHECK.end();
    }

    private static void due(LineDispatcher x, int... trains) {
        CHECK.due("at " + x.count(0) + " order(-1)", x.order(-1), trains.length);
        for (int i = 0; i < trains.length; i++) CHECK.due("at " + x.count(0) + " order(" + i + ")", x.order(i), trains[i]);
        CHECK.due("behind the last", x.order(trains.length), -1);
    }

    private static void positions() {
        LineDispatcher x = CHECK.line("L5;T0>1p1@0h1;T0>1p1@0h1");
        CHECK.until(x, 1);
        due(x, 0, 1);
        int[] wrong = {-2, 2, 10, Integer.MIN_VALUE, Integer.MAX_VALUE};
        for (int i : wrong) CHECK.due("order(" + i + ")", x.order(i), -1);
    }

    private static void orders() {
        LineDispatcher x = CHECK.line("L5,5;S0:4;S1:4;W5;T0>1p2@0h1;T0>1p2@1h1;T1>2p2@3h1");
        CHECK.text(x, "T1>2p7@2h1;T1>2p2@2h1;T0>1p2@2h1", 3);
        CHECK.until(x, 1);
        due(x, 0, 1);
        CHECK.until(x, 2);
        due(x, 3, 0, 1, 4, 5);
        CHECK.until(x, 3);
        due(x, 3, 0, 1, 4, 5, 2);
        CHECK.until(x, 5);
        due(x, 3, 0, 1, 4, 5, 2);
        // Those of minute 1 have waited for 5 minutes.
        CHECK.until(x, 6);
        due(x, 0, 1, 3, 4, 5, 2);
        CHECK.until(x, 7);
        due(x, 3, 0, 1, 4, 5, 2);
        CHECK.text(x, "W7", 1);
        due(x, 3, 0, 1, 4, 5, 2);
        CHECK.text(x, "W6", 1);
        due(x, 0, 1, 3, 4, 5, 2);
    }

    private static void withoutReliefs() {
        LineDispatcher x = CHECK.line("L5,5;S1:2r;T0>2p9@0h9;T1>0p1@0h1;T0>2p1@0h1");
        due(x);
        CHECK.until(x, 1);
        due(x, 1, 2);
        CHECK.until(x, 6);
        CHECK.due("in relief", x.train(0, 0), 3);
        due(x, 1, 2);
        CHECK.until(x, 100);
        due(x, 1, 2);
        CHECK.text(x, "L5", 1);
        due(x);
    }
}
