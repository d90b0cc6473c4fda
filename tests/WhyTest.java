/** Promise 12: why. */
public final class WhyTest {
    private static final Check CHECK = new Check();

    public static void main(String[] args) {
        wrongNumbers();
        outside();
        noTrackAtFirst();
        blocksAndTracks();
        hours();
        mayRun();
        theBlockComesFirst();
        CHECK.end();
    }

    private static void wrongNumbers() {
        LineDispatcher x = CHECK.line("L5;T0>1p1@9");
        int[] trains = {-1, 1, 10, Integer.MIN_VALUE, Integer.MAX_VALUE};
        for (int train : trains) CHECK.due("why(" + train + ", 0)", x.why(train, 0), -1);
        int[] whats = {-1, 2, Integer.MIN_VALUE, Integer.MAX_VALUE};
        for (int what : whats) CHECK.due("why(0, " + what + ")", x.why(0, what), -1);
    }

    private static void outside() {
        LineDispatcher x = CHECK.line("L5;T0>1p1@3;T0>1p1@0");
        CHECK.why(x, 0, 1, 3);
        CHECK.why(x, 1, 1, 0);
        CHECK.until(x, 2);
        CHECK.why(x, 0, 1, 1);
        CHECK.why(x, 1, 0, -5);
        CHECK.until(x, 20);
        CHECK.why(x, 0, 0, -5);
        CHECK.text(x, "T0>1p1@30", 1);
        CHECK.due("cancel(2)", x.cancel(2), 1);
        CHECK.why(x, 2, 0, -5);
    }

    private static void noTrackAtFirst() {
        LineDispatcher x = CHECK.line("L5,5;S1:1;T1>0p1@0h1;T1>0p1@2;T1>2p1@9");
        CHECK.until(x, 1);
        CHECK.why(x, 1, 1, 1);
        CHECK.until(x, 2);
        CHECK.why(x, 1, 2, 1);
        CHECK.why(x, 2, 1, 7);
        // With another track it is outside still, and ready, and its station has a free track.
        CHECK.text(x, "S1:2", 1);
        CHECK.why(x, 1, 1, 0);
        CHECK.until(x, 3);
        CHECK.why(x, 1, 0, -5);
    }

    private static void blocksAndTracks() {
        LineDispatcher x = CHECK.line("L5,9;S1:1;T0>2p1@0;T0>2p1@0;T2>0p1@3");
        CHECK.until(x, 3);
        CHECK.why(x, 0, 0, -5);
        CHECK.why(x, 1, 4, 0);
        CHECK.why(x, 2, 5, 1);
        CHECK.until(x, 6);
        CHECK.why(x, 0, 0, -5);
        CHECK.why(x, 2, 4, 0);
        // The last station of a train needs no track.
        LineDispatcher y = CHECK.line("L5;S1:1;T1>0p1@0h1;T0>1p1@0;T0>1p1@0");
        CHECK.until(y, 1);
        CHECK.why(y, 1, 0, -5);
        CHECK.why(y, 2, 4, 1);
        CHECK.until(y, 6);
        CHECK.why(y, 2, 0, -5);
        // The station of the reason 5 for a train that goes down the line.
        LineDispatcher z = CHECK.line("L5,5,5;S2:1;T2>3p1@0h1;T3>0p1@0");
        CHECK.until(z, 1);
        CHECK.why(z, 1, 5, 2);
    }

    private static void hours() {
        LineDispatcher x = CHECK.line("L5,8;T0>2p1@0h7;T2>1p1@0+1h7");
        CHECK.until(x, 6);
        CHECK.why(x, 0, 6, 6);
        CHECK.why(x, 1, 6, 7);
        CHECK.until(x, 10);
        CHECK.why(x, 0, 6, 10);
        CHECK.text(x, "O1+20@10-11", 1);
        CHECK.why(x, 0, 6, 30);
        CHECK.until(x, 11);
        CHECK.why(x, 0, 6, 11);
        // Hours that are just enough do not keep a train.
        LineDispatcher y = CHECK.line("L5;T0>1p1@0h4;O0+1@0-3");
        CHECK.until(y, 1);
        CHECK.why(y, 0, 6, 2);
        LineDispatcher z = CHECK.line("L5;T0>1p1@0h6;O0+2@0-3");
        CHECK.until(z, 1);
        CHECK.why(z, 0, 6, 1);
        CHECK.due("lift(0)", z.lift(0), 0);
        CHECK.why(z, 0, 8, -5);
    }

    private static void mayRun() {
        // Train 2 keeps the one track of station 1, and cannot run; 0, 1 and 3 want it from both sides.
        LineDispatcher x = CHECK.line("L5,5;S0:3;S1:1;T0>2p1@1;T0>2p2@1;T1>2p0@0h4");
        CHECK.text(x, "T2>0p0@1;T0>2p2@1", 2);
        CHECK.until(x, 1);
        CHECK.why(x, 0, 5, 1);
        CHECK.why(x, 1, 5, 1);
        CHECK.why(x, 2, 6, 1);
        CHECK.why(x, 3, 5, 1);
        CHECK.text(x, "S1:2", 1);
        CHECK.why(x, 1, 8, -5);
        CHECK.why(x, 4, 7, 1);
        CHECK.why(x, 0, 7, 1);
        CHECK.why(x, 3, 8, -5);
        // A train that is ahead, but may not enter the block, does not count.
        LineDispatcher y = CHECK.line("L5,5;S0:3;S1:1;T0>2p1@1;T0>2p9@1h4;T1>2p0@0h4");
        CHECK.until(y, 1);
        CHECK.text(y, "S1:2", 1);
        CHECK.why(y, 1, 6, 1);
        CHECK.why(y, 0, 8, -5);
        // Nor does one that is ahead for another block.
        LineDispatcher z = CHECK.line("L5,5;S1:1;T1>2p0@0h4;T0>2p1@1;T2>0p9@1");
        CHECK.until(z, 1);
        CHECK.text(z, "S1:3", 1);
        CHECK.why(z, 1, 8, -5);
        CHECK.why(z, 2, 8, -5);
        CHECK.due("the first in the order", z.order(0), 2);
        // The order is that of now: train 0 came first, and is ahead as soon as the bound lets it be so.
        LineDispatcher v = CHECK.line("L5,5;S0:3;S1:1;T0>2p1@1;T0>2p9@3;T1>2p0@0h4");
        CHECK.until(v, 5);
        CHECK.text(v, "S1:2", 1);
        CHECK.why(v, 0, 7, 1);
        CHECK.why(v, 1, 8, -5);
        CHECK.text(v, "W4", 1);
        CHECK.why(v, 0, 8, -5);
        CHECK.why(v, 1, 7, 0);
    }

    private static void theBlockComesFirst() {
        // The block is taken, station 1 has no free track and the crew's hours are too few: the block is told.
        LineDispatcher x = CHECK.line("L5,5;S1:1;T0>2p9@0;T0>2p1@0h2");
        CHECK.until(x, 1);
        CHECK.why(x, 1, 4, 0);
        // Without the train in the block, but with one in station 1, the track is told; then the hours.
        LineDispatcher y = CHECK.line("L5,5;S1:1;T1>0p9@0h2;T0>2p1@0h2");
        CHECK.until(y, 1);
        CHECK.why(y, 1, 5, 1);
        CHECK.text(y, "S1:2", 1);
        CHECK.why(y, 1, 6, 3);
    }
}
