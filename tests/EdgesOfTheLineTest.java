/** The boundaries that the document's sections "What it is" and "Line" and its promise 1 name, one by one. */
public final class EdgesOfTheLineTest {
    private static final Check CHECK = new Check();

    public static void main(String[] args) {
        theLastOfTheCalls();
        noLineAtFirst();
        aNewObject();
        fewestAndMostStations();
        blocksBetweenThem();
        shortestAndLongestBlock();
        fewestAndMostTracks();
        noReliefStationAtFirst();
        CHECK.end();
    }

    private static void theLastOfTheCalls() {
        CHECK.sentence("An object is used for at most 512 calls after it has been made");
        LineDispatcher x = new LineDispatcher();
        x.feed(5, 'L', '9', ';', 'T', '0');
        x.feed(5, '>', '1', 'p', '1', '@');
        x.feed(2, '4', '0', 0, 0, 0);
        CHECK.due("the 4th call", x.execute(), 2);
        for (int call = 5; call <= 511; call++) CHECK.due("the call " + call, x.pass(1), call - 4);
        CHECK.due("the 512th call", x.train(0, 6), 49);
    }

    private static void noLineAtFirst() {
        CHECK.sentence("At first there is no line");
        LineDispatcher x = new LineDispatcher();
        CHECK.due("count(1)", x.count(1), 0);
        CHECK.due("station(0, 0)", x.station(0, 0), -3);
        CHECK.due("block(0, 0)", x.block(0, 0), -3);
        CHECK.due("pass(1)", x.pass(1), -3);
    }

    private static void aNewObject() {
        CHECK.sentence("Creates a dispatcher without a line.");
        int[] due = {0, 0, 0, 0, 0, 0, 60, 0, 10, 0};
        for (int what = 0; what < due.length; what++) {
            CHECK.due("count(" + what + ")", new LineDispatcher().count(what), due[what]);
        }
        CHECK.due("undo()", new LineDispatcher().undo(), -3);
        CHECK.due("drift()", new LineDispatcher().drift(), -5);
        CHECK.due("refusal(0)", new LineDispatcher().refusal(0), -5);
    }

    private static void fewestAndMostStations() {
        CHECK.sentence("A line has 2 to 8 stations, numbered from 0");
        StringBuilder text = new StringBuilder("L5");
        for (int last = 1; last <= 7; last++) {
            LineDispatcher x = CHECK.line(text.toString());
            CHECK.due("count(1) of " + text, x.count(1), last + 1);
            CHECK.due("station(-1, 0) of " + text, x.station(-1, 0), -1);
            CHECK.due("station(0, 0) of " + text, x.station(0, 0), 2);
            CHECK.due("the last station of " + text, x.station(last, 0), 2);
            CHECK.due("the station behind the last of " + text, x.station(last + 1, 0), -1);
            text.append(",5");
        }
        CHECK.wrong(new LineDispatcher(), text.toString(), 14);
        CHECK.wrong(new LineDispatcher(), "L", 1);
    }

    private static void blocksBetweenThem() {
        CHECK.sentence("between the stations b and b + 1 the block b");
        LineDispatcher x = CHECK.line("L1,2,3,4,5,6,7");
        CHECK.due("block(-1, 0)", x.block(-1, 0), -1);
        for (int block = 0; block < 7; block++) CHECK.due("block(" + block + ", 0)", x.block(block, 0), block + 1);
        CHECK.due("block(7, 0)", x.block(7, 0), -1);
        CHECK.text(x, "L9;T0>1p1@0", 2);
        CHECK.due("block(0, 0)", x.block(0, 0), 9);
        CHECK.due("block(1, 0)", x.block(1, 0), -1);
        LineDispatcher y = CHECK.line("L1,1,1,1,1,1,50;T6>7p1@0;T7>6p1@90");
        CHECK.until(y, 1);
        CHECK.due("the last block, upwards", y.block(6, 1), 0);
        CHECK.until(y, 90);
        CHECK.due("the last block, downwards", y.block(6, 1), 1);
    }

    private static void shortestAndLongestBlock() {
        CHECK.sentence("with a length of 1 to 99 minutes");
        int[] right = {1, 2, 98, 99};
        for (int length : right) {
            LineDispatcher x = CHECK.line("L" + length + ";T0>1p1@0");
            CHECK.due("block(0, 0)", x.block(0, 0), length);
            CHECK.until(x, length);
            CHECK.states(x, 2);
            CHECK.until(x, length + 1);
            CHECK.states(x, 4);
        }
        int[] wrong = {0, 100, 9999};
        for (int length : wrong) {
            CHECK.refused(new LineDispatcher(), "L" + length, 0, 4, length);
            CHECK.refused(new LineDispatcher(), "L1,99,1,99,1,99," + length, 0, 4, length);
        }
    }

    private static void fewestAndMostTracks() {
        CHECK.sentence("A station has 1 to 4 tracks, initially 2");
        LineDispatcher x = CHECK.line("L5,5");
        for (int station = 0; station < 3; station++) {
            CHECK.due("initially", x.station(station, 0), 2);
            for (int tracks = 1; tracks <= 4; tracks++) {
                CHECK.text(x, "S" + station + ":" + tracks, 1);
                CHECK.due("station(" + station + ", 0)", x.station(station, 0), tracks);
            }
            CHECK.refused(x, "S" + station + ":0", 0, 4, 0);
            CHECK.refused(x, "S" + station + ":5", 0, 4, 5);
            CHECK.due("station(" + station + ", 0) as before", x.station(station, 0), 4);
        }
        CHECK.text(x, "L5,5;T0>1p1@0h1;T0>1p1@0h1;T0>1p1@0h1", 4);
        CHECK.due("initially, on a new line", x.station(0, 0), 2);
        CHECK.until(x, 9);
        CHECK.states(x, 1, 1, 0);
    }

    private static void noReliefStationAtFirst() {
        CHECK.sentence("is a relief station or not, initially not");
        LineDispatcher x = CHECK.line("L5,5");
        for (int station = 0; station < 3; station++) CHECK.due("initially", x.station(station, 2), 0);
        CHECK.text(x, "S1:2r", 1);
        CHECK.due("with r", x.station(1, 2), 1);
        CHECK.due("its neighbour", x.station(0, 2), 0);
        CHECK.due("its neighbour", x.station(2, 2), 0);
        CHECK.text(x, "S1:2", 1);
        CHECK.due("without r", x.station(1, 2), 0);
        CHECK.text(x, "S1:2r;L5,5", 2);
        CHECK.due("initially, on a new line", x.station(1, 2), 0);
    }
}
