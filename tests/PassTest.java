/** Promise 8: pass, with the section Minutes. */
public final class PassTest {
    private static final Check CHECK = new Check();

    public static void main(String[] args) {
        errors();
        theLastMinute();
        minutesForABlock();
        slowOrdersAtTheirEdges();
        comingIn();
        arrivalsComeBeforeTheOthers();
        aTrackFreedIsFreeAtTheNextMinute();
        tracksOnTheWay();
        theLastStationNeedsNoTrack();
        aBlockHoldsOneTrain();
        priorities();
        waitingBound();
        whoCameEarlier();
        aLaterTrainDoesNotLetAnEarlierOneRun();
        hours();
        newCrewsAreReadyAtOnce();
        manyMinutesAreSingleMinutes();
        CHECK.end();
    }

    private static void errors() {
        LineDispatcher x = CHECK.line("L5;T0>1p1@0");
        int[] wrong = {0, -1, 501, Integer.MIN_VALUE, Integer.MAX_VALUE};
        for (int n : wrong) CHECK.due("pass(" + n + ")", x.pass(n), -2);
        CHECK.due("count(0)", x.count(0), 0);
        CHECK.due("pass(1)", x.pass(1), 1);
        CHECK.due("pass(500)", x.pass(500), 501);
    }

    private static void theLastMinute() {
        LineDispatcher x = CHECK.line("L5;T0>1p1@9999;T0>1p1@9998");
        CHECK.until(x, 9998);
        CHECK.due("pass(2)", x.pass(2), -4);
        CHECK.due("pass(500)", x.pass(500), -4);
        CHECK.due("pass(501)", x.pass(501), -2);
        CHECK.due("pass(1)", x.pass(1), 9999);
        CHECK.states(x, 1, 2);
        CHECK.due("pass(1)", x.pass(1), -4);
        CHECK.due("count(0)", x.count(0), 9999);
        CHECK.due("a forecast goes on", x.ahead(500, 0), 2);
        CHECK.due("a plan goes on", x.plan(500), 3);
        CHECK.due("timetable(0, 1, 0)", x.timetable(0, 1, 0), 10008);
    }

    private static void minutesForABlock() {
        LineDispatcher x = CHECK.line("L7,3;T0>2p1@0+2;O0+10@0-9;O0+20@1-2;O1+40@0-99");
        CHECK.until(x, 1);
        CHECK.due("7 + 2 + 10 + 20", x.train(0, 7), 40);
        CHECK.until(x, 39);
        CHECK.due("train(0, 1)", x.train(0, 1), 0);
        CHECK.until(x, 40);
        CHECK.due("3 + 2 + 40", x.train(0, 7), 85);
        CHECK.until(x, 85);
        CHECK.states(x, 4);
    }

    private static void slowOrdersAtTheirEdges() {
        String[] orders = {"O0+9@2-3", "O0+9@1-2", "O0+9@0-1", "O0+9@0-2"};
        int[] due = {6, 15, 6, 15};
        for (int i = 0; i < due.length; i++) {
            LineDispatcher x = CHECK.line("L5;T0>1p1@0;" + orders[i]);
            CHECK.until(x, 1);
            CHECK.due("train(0, 7) with " + orders[i], x.train(0, 7), due[i]);
        }
    }

    private static void comingIn() {
        LineDispatcher x = CHECK.line("L50;S0:1;T0>1p1@3h9;T0>1p9@0h9;T0>1p1@0h9");
        CHECK.until(x, 1);
        CHECK.states(x, 0, 1, 0);
        CHECK.due("station(0, 4)", x.station(0, 4), 1);
        CHECK.text(x, "S0:2", 1);
        CHECK.until(x, 2);
        CHECK.states(x, 0, 1, 1);
        CHECK.until(x, 3);
        CHECK.states(x, 0, 1, 1);
        CHECK.text(x, "S0:3", 1);
        CHECK.until(x, 4);
        CHECK.states(x, 1, 1, 1);
        CHECK.due("train(0, 8)", x.train(0, 8), 4);
        CHECK.due("train(0, 6)", x.train(0, 6), 4);
        CHECK.due("train(2, 6)", x.train(2, 6), 2);
        CHECK.due("station(0, 4)", x.station(0, 4), 3);
        LineDispatcher y = CHECK.line("L5;T0>1p1@7");
        CHECK.until(y, 6);
        CHECK.states(y, 0);
        CHECK.until(y, 7);
        CHECK.states(y, 2);
    }

    /** The train that comes at minute 6 takes its track before the one that is ready outside then. */
    private static void arrivalsComeBeforeTheOthers() {
        LineDispatcher x = CHECK.line("L5,50;S1:1;T1>2p1@6h9;T0>2p1@0");
        CHECK.until(x, 1);
        CHECK.states(x, 0, 2);
        CHECK.until(x, 6);
        CHECK.states(x, 0, 2);
        CHECK.due("train 1 went on", x.train(1, 1), 1);
        CHECK.until(x, 7);
        CHECK.states(x, 1, 2);
        // A train that has ended has let its block go before the trains are looked at.
        LineDispatcher y = CHECK.line("L5;T0>1p1@0;T1>0p1@0");
        CHECK.until(y, 5);
        CHECK.states(y, 2, 1);
        CHECK.until(y, 6);
        CHECK.states(y, 4, 2);
    }

    private static void aTrackFreedIsFreeAtTheNextMinute() {
        LineDispatcher x = CHECK.line("L5;S0:1;T0>1p1@0;T0>1p1@0");
        CHECK.until(x, 1);
        CHECK.states(x, 2, 0);
        CHECK.until(x, 2);
        CHECK.states(x, 2, 1);
        CHECK.until(x, 6);
        CHECK.states(x, 4, 2);
    }

    private static void tracksOnTheWay() {
        // Train 0 is on its way to the one track of station 1, so neither train 1 nor train 2 may take it.
        LineDispatcher x = CHECK.line("L9,9;S1:1;T0>2p1@0;T2>0p1@0;T1>0p1@2");
        CHECK.until(x, 1);
        CHECK.states(x, 2, 1, 0);
        CHECK.until(x, 9);
        CHECK.states(x, 2, 1, 0);
        CHECK.due("why(1, 0)", x.why(1, 0), 5);
        CHECK.due("why(2, 0)", x.why(2, 0), 2);
        CHECK.until(x, 10);
        // Train 0 is in station 1 and runs on into block 1 at once, so train 1 has to wait for the block.
        CHECK.states(x, 2, 1, 0);
        CHECK.due("train(0, 1)", x.train(0, 1), 1);
        CHECK.until(x, 11);
        CHECK.states(x, 2, 1, 2);
        CHECK.until(x, 19);
        CHECK.states(x, 4, 2, 2);
    }

    private static void theLastStationNeedsNoTrack() {
        LineDispatcher x = CHECK.line("L5;S1:1;T1>0p1@0h4;T0>1p1@0;T0>1p1@2");
        CHECK.until(x, 20);
        CHECK.states(x, 1, 4, 4);
        CHECK.due("station(1, 1)", x.station(1, 1), 1);
        CHECK.due("station(1, 4)", x.station(1, 4), 3);
    }

    private static void aBlockHoldsOneTrain() {
        LineDispatcher x = CHECK.line("L5,5;T0>2p1@0;T0>2p1@0;T2>0p1@0");
        CHECK.until(x, 1);
        CHECK.states(x, 2, 1, 2);
        CHECK.until(x, 5);
        CHECK.states(x, 2, 1, 2);
        CHECK.until(x, 6);
        // Trains 0 and 2 meet in station 1, which is full then: train 1, looked at first, cannot go there.
        CHECK.states(x, 2, 1, 2);
        CHECK.due("train(0, 1)", x.train(0, 1), 1);
        CHECK.due("train(2, 1)", x.train(2, 1), 0);
        CHECK.until(x, 11);
        CHECK.states(x, 4, 2, 4);
        CHECK.due("train(1, 1)", x.train(1, 1), 0);
        CHECK.until(x, 16);
        CHECK.due("train(1, 1)", x.train(1, 1), 1);
    }

    private static void priorities() {
        LineDispatcher x = CHECK.line("L5;S0:3;T0>1p2@0;T0>1p9@0;T0>1p3@0");
        CHECK.until(x, 1);
        CHECK.states(x, 1, 2, 1);
        CHECK.until(x, 6);
        CHECK.states(x, 1, 4, 2);
        CHECK.until(x, 11);
        CHECK.states(x, 2, 4, 4);
    }

    private static void waitingBound() {
        int[] bounds = {10, 11};
        for (int bound : bounds) {
            LineDispatcher x = CHECK.line("L5;S0:4;W" + bound + ";T0>1p0@0;T0>1p9@0;T0>1p8@0;T0>1p7@7");
            CHECK.until(x, 10);
            CHECK.states(x, 1, 4, 2, 1);
            CHECK.until(x, 11);
            // Train 0 came at 1, so it has waited for 10 minutes now.
            CHECK.states(x, bound == 10 ? 2 : 1, 4, 4, bound == 10 ? 1 : 2);
        }
        // Both have waited for long, so the priorities count between them.
        LineDispatcher y = CHECK.line("L5;S0:4;W1;T0>1p0@0;T0>1p5@0;T0>1p9@0");
        CHECK.until(y, 6);
        CHECK.states(y, 1, 2, 4);
        // The time of a relief counts: train 0 rests from 6 to 16, and has been in station 1 for 10 minutes then.
        LineDispatcher z = CHECK.line("L5,5;S1:3r;W10;T0>2p0@0h9;T1>2p9@16");
        CHECK.until(z, 16);
        CHECK.states(z, 2, 1);
    }

    private static void whoCameEarlier() {
        LineDispatcher x = CHECK.line("L5;S0:4;T0>1p3@3;T0>1p3@2;T0>1p5@1;T0>1p3@2");
        CHECK.until(x, 5);
        CHECK.states(x, 1, 1, 2, 1);
        CHECK.until(x, 6);
        CHECK.states(x, 1, 2, 4, 1);
        CHECK.until(x, 11);
        CHECK.states(x, 1, 4, 4, 2);
        CHECK.until(x, 16);
        CHECK.states(x, 2, 4, 4, 4);
        // A relief does not make a train come later: 0 came at 6 and rests until 16, 1 came at 16.
        LineDispatcher y = CHECK.line("L5,5;S1:3r;T0>2p3@0h9;T1>2p3@16");
        CHECK.until(y, 16);
        CHECK.states(y, 2, 1);
    }

    private static void aLaterTrainDoesNotLetAnEarlierOneRun() {
        LineDispatcher x = CHECK.line("L5,5;S1:1;T0>2p9@0;T1>2p1@0");
        CHECK.until(x, 1);
        // Train 0 was looked at first, when train 1 had the track of station 1 still.
        CHECK.states(x, 1, 2);
        CHECK.due("why(0, 0)", x.why(0, 0), 8);
        CHECK.until(x, 2);
        CHECK.states(x, 2, 2);
        // The other way round, the first one lets the second one run in the same minute.
        LineDispatcher y = CHECK.line("L5,5;S1:1;T0>2p1@0;T1>2p9@0");
        CHECK.until(y, 1);
        CHECK.states(y, 2, 2);
    }

    private static void hours() {
        String[] crews = {"h10", "h9", "h5", "h4"};
        int[] due = {2, 3, 3, 1};
        for (int i = 0; i < due.length; i++) {
            LineDispatcher x = CHECK.line("L5,5;T0>2p1@0" + crews[i]);
            CHECK.until(x, 6);
            CHECK.due("train(0, 0) with " + crews[i], x.train(0, 0), due[i]);
            CHECK.due("train(0, 1) with " + crews[i], x.train(0, 1), i == 3 ? 0 : 1);
        }
        // Extra minutes and slow orders count for the crew, too.
        LineDispatcher y = CHECK.line("L5;T0>1p1@0+1h5;T1>0p1@0h5;O0+1@0-9");
        CHECK.until(y, 8);
        CHECK.states(y, 1, 1);
        CHECK.until(y, 9);
        CHECK.states(y, 1, 3);
        // The waiting counts as well: train 1 may enter at 6 with a crew that began at 1.
        LineDispatcher z = CHECK.line("L5;T0>1p9@0;T0>1p1@0h9");
        CHECK.until(z, 6);
        CHECK.states(z, 4, 3);
        LineDispatcher v = CHECK.line("L5;T0>1p9@0;T0>1p1@0h10");
        CHECK.until(v, 6);
        CHECK.states(v, 4, 2);
    }

    private static void newCrewsAreReadyAtOnce() {
        // The relief ends at 16 ahead of the dispatching of that minute, and train 0 has the higher priority.
        LineDispatcher x = CHECK.line("L5,5;S1:3r;T0>2p3@0h9;T1>2p2@16");
        CHECK.until(x, 15);
        CHECK.states(x, 3, 0);
        CHECK.until(x, 16);
        CHECK.states(x, 2, 1);
        CHECK.due("train(0, 8)", x.train(0, 8), 16);
    }

    private static void manyMinutesAreSingleMinutes() {
        String text = "L6,9,4;S1:1r;W8;T0>3p2@0h15;T3>0p5@2+1h20;T0>2p7@4";
        LineDispatcher x = CHECK.line(text);
        LineDispatcher y = CHECK.line(text);
        for (int i = 1; i <= 100; i++) CHECK.due("pass(1)", x.pass(1), i);
        CHECK.due("pass(100)", y.pass(100), 100);
        CHECK.same("after 100 minutes", Check.all(x), Check.all(y));
    }
}
