/** Promise 10: station. */
public final class StationTest {
    private static final Check CHECK = new Check();

    public static void main(String[] args) {
        wrongNumbers();
        properties();
        takenTracks();
        CHECK.end();
    }

    private static void due(LineDispatcher x, int station, int... due) {
        for (int what = 0; what < 5; what++) {
            CHECK.due("at " + x.count(0) + " station(" + station + ", " + what + ")", x.station(station, what), due[what]);
        }
    }

    private static void wrongNumbers() {
        LineDispatcher x = CHECK.line("L5,5,5,5,5,5,5");
        CHECK.due("station(7, 0)", x.station(7, 0), 2);
        int[] wrong = {-1, 8, 9, Integer.MIN_VALUE, Integer.MAX_VALUE};
        for (int station : wrong) CHECK.due("station(" + station + ", 0)", x.station(station, 0), -1);
        CHECK.text(x, "L5", 1);
        CHECK.due("station(1, 0)", x.station(1, 0), 2);
        CHECK.due("station(2, 0)", x.station(2, 0), -1);
        int[] whats = {-1, 5, Integer.MIN_VALUE, Integer.MAX_VALUE};
        for (int what : whats) CHECK.due("station(0, " + what + ")", x.station(0, what), -1);
    }

    private static void properties() {
        LineDispatcher x = CHECK.line("L5,9;S0:4r;T0>2p1@0;T0>2p2@0;T0>1p3@0;T1>2p1@0");
        due(x, 0, 4, 0, 1, 0, 0);
        CHECK.until(x, 1);
        due(x, 0, 4, 2, 1, 3, 3);
        due(x, 1, 2, 0, 0, 0, 1);
        due(x, 2, 2, 0, 0, 0, 0);
        CHECK.until(x, 6);
        // Train 2 has ended in station 1, train 1 is on its way there.
        due(x, 0, 4, 1, 1, 1, 3);
        due(x, 1, 2, 1, 0, 0, 2);
        CHECK.until(x, 11);
        due(x, 0, 4, 0, 1, 0, 3);
        due(x, 1, 2, 1, 0, 0, 3);
        CHECK.until(x, 16);
        due(x, 1, 2, 1, 0, 1, 4);
        CHECK.until(x, 40);
        due(x, 1, 2, 0, 0, 0, 4);
        due(x, 2, 2, 0, 0, 0, 3);
    }

    private static void takenTracks() {
        LineDispatcher x = CHECK.line("L5,5;S1:3;T0>2p1@0h9;T2>0p1@0h5;T1>0p1@3h1");
        CHECK.until(x, 1);
        due(x, 1, 3, 2, 0, 0, 0);
        CHECK.until(x, 3);
        due(x, 1, 3, 3, 0, 4, 1);
        CHECK.until(x, 6);
        // Trains 0 and 1 are in relief.
        CHECK.due("train(0, 0)", x.train(0, 0), 3);
        CHECK.due("train(1, 0)", x.train(1, 0), 3);
        due(x, 1, 3, 3, 0, 7, 3);
        LineDispatcher y = CHECK.line("L5;S0:4;T0>1p1@99;T0>1p1@99;T0>1p1@99;T0>1p1@99");
        CHECK.text(y, "T1>0p1@99;T1>0p1@99;T1>0p1@99;T1>0p1@99;T0>1p1@0h1", 5);
        CHECK.text(y, "T1>0p1@0h1", 1);
        CHECK.until(y, 1);
        due(y, 0, 4, 1, 0, 1 << 8, 1);
        due(y, 1, 2, 1, 0, 1 << 9, 1);
    }
}
