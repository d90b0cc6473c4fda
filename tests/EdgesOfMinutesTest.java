/** The boundaries that the document's section "Minutes" and its promises 5, 8, 12 and 13 name, one by one. */
public final class EdgesOfMinutesTest {
    private static final Check CHECK = new Check();
    private static final int[] FAR = {Integer.MIN_VALUE, Integer.MAX_VALUE};

    public static void main(String[] args) {
        minuteZero();
        minutesForABlock();
        minutesThatHavePassed();
        noTrackInTheLastStation();
        readyMinutes();
        aFreeTrackToComeIn();
        lowerNumbersComeInFirst();
        firstCrews();
        newCrews();
        theOrderDecides();
        blockOrRelief();
        tracksOfTrainsOnTheirWay();
        aFreeTrackToGoTo();
        oneTrainInABlock();
        justEnoughHours();
        justEnoughHoursForTheBlock();
        noReliefWhileSomethingElseIsInTheWay();
        threeTimesAsLong();
        theParameterAtTheBeginning();
        noMinutesOfRelief();
        theWaitingBound();
        theWaitingBoundWithReliefs();
        priorities();
        whoCameEarlier();
        lowerNumbers();
        minutesOfARelief();
        thePreviousMinutes();
        minutesToPass();
        theLastMinute();
        minutesUpToTheReadyMinute();
        readyWithoutATrack();
        minutesThatRemain();
        theNextBlockIsTaken();
        noTrackBehindTheBlock();
        minutesAboveTheHours();
        aTrainAhead();
        anotherTrainAhead();
        noNumber();
        noTrainToAskFor();
        positions();
        CHECK.end();
    }

    private static void minuteZero() {
        CHECK.sentence("The time is a minute, initially 0");
        LineDispatcher x = CHECK.line("L5;T0>1p1@0");
        CHECK.due("count(0)", x.count(0), 0);
        CHECK.states(x, 0);
        CHECK.due("pass(1)", x.pass(1), 1);
        CHECK.states(x, 2);
    }

    private static void minutesForABlock() {
        CHECK.sentence("the numbers of all slow orders for it at the minute at which it enters it");
        LineDispatcher x = CHECK.line("L5,5;T0>2p1@0+2;O0+3@1-2;O0+4@0-9");
        CHECK.text(x, "O0+8@2-9;O0+16@0-1;O1+32@0-9", 3);
        CHECK.until(x, 1);
        CHECK.due("5 + 2 + 3 + 4 from 1 on", x.train(0, 7), 15);
        CHECK.until(x, 2);
        CHECK.due("lift(0)", x.lift(0), 4);
        CHECK.due("as it was when it entered", x.train(0, 7), 15);
        CHECK.until(x, 15);
        CHECK.due("5 + 2 from 15 on", x.train(0, 7), 22);
        LineDispatcher y = CHECK.line("L5;O0+1@0-9;O0+2@0-9;O0+4@0-9;O0+8@0-9;O0+16@0-9");
        CHECK.text(y, "O0+32@0-9;T0>1p1@0", 2);
        CHECK.until(y, 1);
        CHECK.due("all six", y.train(0, 7), 1 + 5 + 63);
    }

    private static void minutesThatHavePassed() {
        CHECK.sentence("the trains whose minutes in a block have passed are in the station to which it leads");
        LineDispatcher x = CHECK.line("L1,99;T0>2p1@0");
        CHECK.until(x, 1);
        CHECK.due("in block 0", x.train(0, 1), 0);
        CHECK.until(x, 2);
        CHECK.due("it came into station 1", x.timetable(0, 1, 0), 2);
        CHECK.due("and went on", x.train(0, 1), 1);
        CHECK.until(x, 100);
        CHECK.states(x, 2);
        CHECK.until(x, 101);
        CHECK.states(x, 4);
    }

    private static void noTrackInTheLastStation() {
        CHECK.sentence("a train that is in its last station has ended, and takes no track there");
        LineDispatcher x = CHECK.line("L5;S1:1;T0>1p1@0;T1>0p9@0h1");
        CHECK.until(x, 5);
        CHECK.states(x, 2, 1);
        CHECK.due("station(1, 1)", x.station(1, 1), 1);
        CHECK.until(x, 6);
        CHECK.states(x, 4, 1);
        CHECK.due("station(1, 1)", x.station(1, 1), 1);
        CHECK.due("station(1, 3)", x.station(1, 3), 2);
    }

    private static void readyMinutes() {
        CHECK.sentence("whose ready minute is not greater than the time");
        LineDispatcher x = CHECK.line("L5;T0>1p1@3;T0>1p1@4");
        CHECK.until(x, 2);
        CHECK.states(x, 0, 0);
        CHECK.until(x, 3);
        CHECK.states(x, 2, 0);
        CHECK.until(x, 4);
        CHECK.states(x, 2, 1);
        CHECK.text(x, "T1>0p1@4", 1);
        CHECK.states(x, 2, 1, 0);
        CHECK.until(x, 5);
        CHECK.states(x, 2, 1, 1);
        CHECK.due("it came at the minute behind its ready one", x.train(2, 6), 5);
    }

    private static void aFreeTrackToComeIn() {
        CHECK.sentence("come into their first station if a track there is free");
        LineDispatcher x = CHECK.line("L5;S0:1;T0>1p1@0h1;T0>1p1@0h1");
        CHECK.until(x, 20);
        CHECK.states(x, 1, 0);
        CHECK.text(x, "S0:2", 1);
        CHECK.states(x, 1, 0);
        CHECK.until(x, 21);
        CHECK.states(x, 1, 1);
        // A track that becomes free when a train enters its block is free from the next minute on.
        LineDispatcher y = CHECK.line("L5;S0:1;T0>1p1@0;T0>1p1@0");
        CHECK.until(y, 1);
        CHECK.states(y, 2, 0);
        CHECK.until(y, 2);
        CHECK.states(y, 2, 1);
    }

    private static void lowerNumbersComeInFirst() {
        CHECK.sentence("In ascending order, the trains that are outside");
        LineDispatcher x = CHECK.line("L5;S0:1;T0>1p0@2h1;T0>1p9@2h1");
        CHECK.until(x, 2);
        CHECK.states(x, 1, 0);
        LineDispatcher y = CHECK.line("L5;S0:1;T1>0p1@0h1;T0>1p9@0h1;T0>1p1@9h1;T0>1p9@2h1");
        CHECK.until(y, 9);
        CHECK.states(y, 1, 1, 0, 0);
        CHECK.text(y, "S0:2", 1);
        CHECK.until(y, 10);
        CHECK.states(y, 1, 1, 1, 0);
    }

    private static void firstCrews() {
        CHECK.sentence("Their first crew begins then");
        LineDispatcher x = CHECK.line("L5;S0:1;T0>1p1@2h1;T0>1p1@3h1");
        CHECK.until(x, 8);
        CHECK.due("train(0, 8)", x.train(0, 8), 2);
        CHECK.due("train(1, 8)", x.train(1, 8), -5);
        CHECK.text(x, "S0:2", 1);
        CHECK.until(x, 9);
        CHECK.due("train(1, 8)", x.train(1, 8), 9);
    }

    /** A train that comes into station 1 at minute 6 with a crew that can go no further, and then rests. */
    private static LineDispatcher tired(String station) {
        LineDispatcher x = CHECK.line("L5,5;" + station + ";T0>2p1@0h9");
        CHECK.until(x, 5);
        return x;
    }

    private static void newCrews() {
        CHECK.sentence("the trains whose relief has ended have a new crew, which begins then");
        LineDispatcher x = tired("S1:2r");
        CHECK.until(x, 15);
        CHECK.states(x, 3);
        CHECK.due("train(0, 8)", x.train(0, 8), -5);
        CHECK.until(x, 16);
        CHECK.states(x, 2);
        CHECK.due("train(0, 8)", x.train(0, 8), 16);
        // It is looked at in the same minute already, ahead of one with a lower priority.
        LineDispatcher y = CHECK.line("L5,5;S1:3r;T0>2p3@0h9;T1>2p2@16");
        CHECK.until(y, 16);
        CHECK.states(y, 2, 1);
    }

    private static void theOrderDecides() {
        CHECK.sentence("are looked at in the order of dispatching, as it is ahead of this");
        LineDispatcher x = CHECK.line("L5;S0:3;T0>1p2@0;T0>1p9@0;T0>1p3@0");
        CHECK.until(x, 1);
        CHECK.states(x, 1, 2, 1);
        // The first one finds no track, and is not looked at again when the second one has left.
        LineDispatcher y = CHECK.line("L5,5;S1:1;T0>2p9@0;T1>2p1@0");
        CHECK.until(y, 1);
        CHECK.states(y, 1, 2);
        CHECK.until(y, 2);
        CHECK.states(y, 2, 2);
        // The other way round, the second one finds the track that the first one has left.
        LineDispatcher z = CHECK.line("L5,5;S1:1;T0>2p1@0;T1>2p9@0");
        CHECK.until(z, 1);
        CHECK.states(z, 2, 2);
    }

    private static void blockOrRelief() {
        CHECK.sentence("each one enters its next block if it may, otherwise, if only its crew is the reason, its relief begins");
        // All three are looked at in minute 6: one may enter, one has a tired crew, one has too few hours.
        LineDispatcher x = CHECK.line("L5,5,5;S1:3;T0>2p1@0h9;T1>0p1@6;T2>3p1@6h4");
        CHECK.until(x, 5);
        CHECK.states(x, 2, 0, 0);
        CHECK.until(x, 6);
        CHECK.states(x, 3, 2, 1);
    }

    private static void tracksOfTrainsOnTheirWay() {
        CHECK.sentence("A track of a station is taken by each train in it,"
                + " and by each train in a block that goes there and does not end there");
        LineDispatcher x = CHECK.line("L5,5,5;T0>2p1@0;T0>1p1@6;T3>1p1@0");
        CHECK.until(x, 1);
        int[] due = {0, 1, 1, 0};
        for (int i = 0; i < 4; i++) CHECK.due("at 1 station(" + i + ", 1)", x.station(i, 1), due[i]);
        CHECK.until(x, 6);
        // Trains 0 and 1 run to their last stations; train 2, in station 2 with its track, may not enter block 1.
        int[] later = {0, 0, 1, 0};
        for (int i = 0; i < 4; i++) CHECK.due("at 6 station(" + i + ", 1)", x.station(i, 1), later[i]);
        CHECK.states(x, 2, 2, 1);
    }

    private static void aFreeTrackToGoTo() {
        CHECK.sentence("the train will end in the station to which it leads or a track there is free");
        LineDispatcher x = CHECK.line("L5,5;S1:1;T1>0p1@0h1;T0>2p9@0;T0>1p1@0");
        CHECK.until(x, 1);
        CHECK.states(x, 1, 1, 2);
        CHECK.until(x, 20);
        CHECK.states(x, 1, 1, 4);
        CHECK.text(x, "S1:2", 1);
        CHECK.until(x, 21);
        CHECK.states(x, 1, 2, 4);
    }

    private static void oneTrainInABlock() {
        CHECK.sentence("A train may enter a block if no train is in it");
        LineDispatcher x = CHECK.line("L5;T0>1p1@0;T0>1p1@0;T1>0p1@0");
        CHECK.until(x, 5);
        CHECK.states(x, 2, 1, 1);
        CHECK.until(x, 6);
        CHECK.states(x, 4, 2, 1);
        CHECK.until(x, 10);
        CHECK.states(x, 4, 2, 1);
        CHECK.until(x, 11);
        CHECK.states(x, 4, 4, 2);
    }

    private static void justEnoughHours() {
        CHECK.sentence("the minutes since the crew began plus those for the block are not above its hours");
        // At 6 the crew has been there for 5 minutes, and needs 5 more.
        String[] crews = {"h11", "h10", "h9", "h8"};
        int[] due = {2, 2, 3, 3};
        for (int i = 0; i < due.length; i++) {
            LineDispatcher x = CHECK.line("L5,5;T0>2p1@0" + crews[i]);
            CHECK.until(x, 6);
            CHECK.states(x, due[i]);
        }
        // The extra and the slow orders are minutes for the block as well.
        LineDispatcher y = CHECK.line("L5;T0>1p1@0+1h5;T1>0p1@0+1h6;O0+1@3-9");
        CHECK.until(y, 1);
        CHECK.states(y, 1, 2);
        LineDispatcher z = CHECK.line("L5;T0>1p1@0h5;T1>0p1@0h6;O0+1@0-9");
        CHECK.until(z, 1);
        CHECK.states(z, 1, 2);
    }

    private static void justEnoughHoursForTheBlock() {
        CHECK.sentence("the minutes for the block alone are not above its hours");
        // At 6 the crew has been there for 5 minutes, and the block alone takes 6.
        String[] crews = {"h11", "h10", "h7", "h6", "h5"};
        int[] due = {2, 3, 3, 3, 1};
        for (int i = 0; i < due.length; i++) {
            LineDispatcher x = CHECK.line("L5,6;T0>2p1@0" + crews[i]);
            CHECK.until(x, 6);
            CHECK.states(x, due[i]);
            CHECK.due("its reliefs with " + crews[i], x.train(0, 9), due[i] == 3 ? 1 : 0);
        }
    }

    private static void noReliefWhileSomethingElseIsInTheWay() {
        CHECK.sentence("The crew is the only reason if the first two conditions hold");
        // Train 1 may wait for one minute; the block is taken up to 10.
        LineDispatcher x = CHECK.line("L9;T0>1p9@0;T0>1p1@0h10");
        CHECK.until(x, 9);
        CHECK.states(x, 2, 1);
        CHECK.until(x, 10);
        CHECK.states(x, 4, 3);
        // Train 0 keeps the one track of station 1, and train 1 has no minute to spare.
        LineDispatcher y = CHECK.line("L5,5;S1:1;T1>0p9@0h4;T0>2p1@0h5");
        CHECK.until(y, 9);
        CHECK.states(y, 1, 1);
        CHECK.text(y, "S1:2", 1);
        CHECK.until(y, 10);
        CHECK.states(y, 1, 3);
    }

    private static void threeTimesAsLong() {
        CHECK.sentence("and three times as long in a station that is no relief station");
        int[] minutes = {1, 10, 60};
        for (int relief : minutes) {
            for (String station : new String[] {"S1:2", "S1:2r"}) {
                LineDispatcher x = tired(station);
                x.relief(relief);
                int end = 6 + relief * (station.equals("S1:2") ? 3 : 1);
                CHECK.until(x, end - 1);
                CHECK.states(x, 3);
                CHECK.due("train(0, 7)", x.train(0, 7), end);
                CHECK.until(x, end);
                CHECK.states(x, 2);
            }
        }
    }

    private static void theParameterAtTheBeginning() {
        CHECK.sentence("A relief, in any station, lasts as long as a parameter says when it begins");
        LineDispatcher x = tired("S1:2r");
        CHECK.due("relief(20)", x.relief(20), 10);
        CHECK.until(x, 6);
        CHECK.due("relief(3)", x.relief(3), 20);
        CHECK.text(x, "S1:2", 1);
        CHECK.due("train(0, 7)", x.train(0, 7), 26);
        CHECK.until(x, 25);
        CHECK.states(x, 3);
        CHECK.until(x, 26);
        CHECK.states(x, 2);
        // The first station of a train is as good as any.
        LineDispatcher y = CHECK.line("L9;S0:2r;T0>1p9@0;T0>1p1@0h10");
        CHECK.until(y, 19);
        CHECK.states(y, 4, 3);
        CHECK.until(y, 20);
        CHECK.states(y, 4, 2);
    }

    private static void noMinutesOfRelief() {
        CHECK.sentence("a relief of 0 minutes ends in step 3 of the next minute");
        for (String station : new String[] {"S1:2", "S1:2r"}) {
            LineDispatcher x = tired(station);
            CHECK.due("relief(0)", x.relief(0), 10);
            CHECK.until(x, 6);
            CHECK.states(x, 3);
            CHECK.due("its reliefs", x.train(0, 9), 1);
            CHECK.until(x, 7);
            CHECK.states(x, 2);
            CHECK.due("its new crew", x.train(0, 8), 7);
            CHECK.due("account(0, 2)", x.account(0, 2), 1);
        }
    }

    private static void theWaitingBound() {
        CHECK.sentence("first the trains that have been in their station for at least the waiting bound");
        for (String trains : new String[] {"T0>1p0@0h1;T0>1p9@5h1", "T0>1p9@5h1;T0>1p0@0h1"}) {
            int patient = trains.startsWith("T0>1p0") ? 0 : 1;
            LineDispatcher x = CHECK.line("L5;W10;" + trains);
            CHECK.until(x, 10);
            CHECK.order(x, 1 - patient, patient);
            CHECK.until(x, 11);
            CHECK.order(x, patient, 1 - patient);
            CHECK.until(x, 14);
            CHECK.order(x, patient, 1 - patient);
            CHECK.until(x, 15);
            CHECK.order(x, 1 - patient, patient);
        }
        // It counts from the station in which a train is, not from its first one.
        LineDispatcher y = CHECK.line("L5,5;S1:3;W10;T0>2p0@0h9;T1>2p9@6h1;O1+9@0-99");
        CHECK.until(y, 15);
        CHECK.order(y, 1, 0);
        CHECK.until(y, 16);
        CHECK.order(y, 1, 0);
        CHECK.text(y, "W11", 1);
        CHECK.order(y, 1, 0);
    }

    private static void theWaitingBoundWithReliefs() {
        CHECK.sentence("for at least the waiting bound, reliefs included");
        // Train 0 is in station 1 from 6 on, in relief up to 16, and then waits for train 1 in block 1.
        LineDispatcher x = CHECK.line("L5,20;S1:2r;W20;T0>2p0@0h24;T2>1p1@10;T1>0p9@16h1");
        CHECK.until(x, 15);
        CHECK.states(x, 3, 2, 0);
        CHECK.until(x, 25);
        CHECK.states(x, 1, 2, 1);
        CHECK.order(x, 2, 0);
        CHECK.until(x, 26);
        CHECK.order(x, 0, 2);
    }

    private static void priorities() {
        CHECK.sentence("among these, and among the others, those with higher priority first");
        LineDispatcher x = CHECK.line("L5;S0:4;W5;T0>1p1@1h1;T0>1p2@1h1;T0>1p3@4h1;T0>1p9@4h1");
        CHECK.until(x, 5);
        CHECK.order(x, 3, 2, 1, 0);
        CHECK.until(x, 6);
        CHECK.order(x, 1, 0, 3, 2);
        CHECK.until(x, 9);
        CHECK.order(x, 3, 2, 1, 0);
    }

    private static void whoCameEarlier() {
        CHECK.sentence("then those that came into their station earlier");
        LineDispatcher x = CHECK.line("L5;S0:3;T0>1p1@3h1;T0>1p1@2h1;T0>1p1@1h1");
        CHECK.until(x, 3);
        CHECK.order(x, 2, 1, 0);
        CHECK.until(x, 63);
        CHECK.order(x, 2, 1, 0);
    }

    private static void lowerNumbers() {
        CHECK.sentence("then those with lower numbers");
        LineDispatcher x = CHECK.line("L5;S0:4;T0>1p1@3h1;T1>0p1@3h1;T0>1p1@3h1;T1>0p1@3h1");
        CHECK.until(x, 3);
        CHECK.order(x, 0, 1, 2, 3);
        CHECK.until(x, 63);
        CHECK.order(x, 0, 1, 2, 3);
    }

    private static void minutesOfARelief() {
        CHECK.sentence("the minutes, 0 to 60, initially 10");
        LineDispatcher x = new LineDispatcher();
        CHECK.due("count(8)", x.count(8), 10);
        for (int minutes : new int[] {-1, 61, FAR[0], FAR[1]}) {
            CHECK.due("relief(" + minutes + ")", x.relief(minutes), -2);
            CHECK.due("count(8)", x.count(8), 10);
        }
        for (int minutes : new int[] {0, 1, 59, 60}) {
            x.relief(minutes);
            CHECK.due("count(8)", x.count(8), minutes);
        }
    }

    private static void thePreviousMinutes() {
        CHECK.sentence("Returns the previous minutes");
        LineDispatcher x = new LineDispatcher();
        CHECK.due("relief(0)", x.relief(0), 10);
        CHECK.due("relief(60)", x.relief(60), 0);
        CHECK.due("relief(61)", x.relief(61), -2);
        CHECK.due("relief(60)", x.relief(60), 60);
        CHECK.due("relief(7)", x.relief(7), 60);
        CHECK.due("relief(7)", x.relief(7), 7);
    }

    private static void minutesToPass() {
        CHECK.sentence("the number of minutes, 1 to 500");
        LineDispatcher x = CHECK.line("L5");
        for (int n : new int[] {0, -1, 501, FAR[0], FAR[1]}) {
            CHECK.due("pass(" + n + ")", x.pass(n), -2);
            CHECK.due("count(0)", x.count(0), 0);
        }
        CHECK.due("pass(1)", x.pass(1), 1);
        CHECK.due("pass(499)", x.pass(499), 500);
        CHECK.due("pass(500)", x.pass(500), 1000);
    }

    private static void theLastMinute() {
        CHECK.sentence("FULL if it would be above 9999");
        LineDispatcher x = CHECK.line("L5;T0>1p1@9999");
        CHECK.until(x, 9500);
        CHECK.due("pass(500)", x.pass(500), -4);
        CHECK.due("count(0)", x.count(0), 9500);
        CHECK.due("pass(498)", x.pass(498), 9998);
        CHECK.due("pass(2)", x.pass(2), -4);
        CHECK.states(x, 0);
        CHECK.due("pass(1)", x.pass(1), 9999);
        CHECK.states(x, 2);
        CHECK.due("pass(1)", x.pass(1), -4);
        CHECK.due("pass(500)", x.pass(500), -4);
        CHECK.due("count(0)", x.count(0), 9999);
        CHECK.text(x, "L5", 1);
        CHECK.due("on a new line", x.pass(1), -4);
    }

    private static void minutesUpToTheReadyMinute() {
        CHECK.sentence("the minutes up to its ready minute with the reason 1, 0 if that has come");
        LineDispatcher x = CHECK.line("L5;S0:1;T0>1p1@3h1;T0>1p1@5");
        CHECK.why(x, 0, 1, 3);
        CHECK.until(x, 2);
        CHECK.why(x, 0, 1, 1);
        CHECK.why(x, 1, 1, 3);
        CHECK.until(x, 20);
        CHECK.text(x, "S0:3;T0>1p1@20", 2);
        CHECK.why(x, 1, 1, 0);
        CHECK.why(x, 2, 1, 0);
    }

    private static void readyWithoutATrack() {
        CHECK.sentence("2 it is outside and ready, and its first station has no free track");
        LineDispatcher x = CHECK.line("L5;S0:1;S1:1;T0>1p1@0h1;T0>1p1@9;T1>0p1@0h1;T1>0p1@9");
        CHECK.until(x, 8);
        CHECK.why(x, 1, 1, 1);
        CHECK.why(x, 3, 1, 1);
        CHECK.until(x, 9);
        CHECK.why(x, 1, 2, 0);
        CHECK.why(x, 3, 2, 1);
        CHECK.until(x, 10);
        CHECK.why(x, 1, 2, 0);
        CHECK.why(x, 3, 2, 1);
        CHECK.text(x, "S0:2", 1);
        CHECK.why(x, 1, 1, 0);
        CHECK.why(x, 3, 2, 1);
    }

    private static void minutesThatRemain() {
        CHECK.sentence("those that remain with 3, at least 0");
        LineDispatcher x = tired("S1:2r");
        CHECK.why(x, 0, 0, -5);
        CHECK.until(x, 6);
        CHECK.why(x, 0, 3, 10);
        CHECK.until(x, 15);
        CHECK.why(x, 0, 3, 1);
        CHECK.until(x, 16);
        CHECK.why(x, 0, 0, -5);
    }

    private static void theNextBlockIsTaken() {
        CHECK.sentence("4 its next block is taken");
        // The block is taken, station 1 has no free track, and the crew's hours are too few: the first one is told.
        LineDispatcher x = CHECK.line("L5,5;S1:1;T0>2p9@0;T0>2p1@0h2");
        CHECK.until(x, 1);
        CHECK.why(x, 1, 4, 0);
        CHECK.until(x, 5);
        CHECK.why(x, 1, 4, 0);
        // At 6 train 0 leaves station 1, too, but train 1 has too few hours.
        CHECK.until(x, 6);
        CHECK.why(x, 1, 6, 8);
    }

    private static void noTrackBehindTheBlock() {
        CHECK.sentence("5 the station to which that leads has no free track");
        LineDispatcher x = CHECK.line("L5,5;S1:1;T1>2p9@0h1;T0>2p1@0h1;T2>0p1@0h9");
        CHECK.until(x, 1);
        CHECK.why(x, 1, 5, 1);
        CHECK.why(x, 2, 5, 1);
        CHECK.text(x, "S1:2", 1);
        CHECK.why(x, 1, 6, 4);
        CHECK.why(x, 2, 8, -5);
        // A train that ends there needs no track.
        LineDispatcher y = CHECK.line("L5;S1:1;T1>0p9@0h1;T0>1p1@0h4");
        CHECK.until(y, 1);
        CHECK.why(y, 1, 6, 1);
    }

    private static void minutesAboveTheHours() {
        CHECK.sentence("6 its crew's hours, also if those for the block alone are too few");
        LineDispatcher x = CHECK.line("L5;T0>1p1@0h4");
        CHECK.until(x, 1);
        CHECK.why(x, 0, 6, 1);
        CHECK.until(x, 2);
        CHECK.why(x, 0, 6, 2);
        // Train 1 has hours for the block alone; with a track in station 1 its crew is the only reason.
        LineDispatcher y = CHECK.line("L5,5;S1:1;T1>0p9@0h4;T0>2p1@0h13");
        CHECK.until(y, 9);
        CHECK.why(y, 1, 5, 1);
        CHECK.text(y, "S1:2", 1);
        CHECK.why(y, 1, 8, -5);
        CHECK.text(y, "S1:1", 1);
        CHECK.until(y, 10);
        CHECK.text(y, "S1:2", 1);
        CHECK.why(y, 1, 6, 1);
    }

    private static void aTrainAhead() {
        CHECK.sentence("7 it may run, and another train is ahead of it in the order of dispatching"
                + " that may enter the same block as all is now");
        LineDispatcher x = CHECK.line("L5,5;S0:3;S1:1;T1>0p9@0h1;T0>2p1@1;T0>2p2@1;T0>2p3@1");
        CHECK.until(x, 1);
        for (int train = 1; train <= 3; train++) CHECK.why(x, train, 5, 1);
        CHECK.text(x, "S1:2", 1);
        CHECK.why(x, 1, 7, 3);
        CHECK.why(x, 2, 7, 3);
        CHECK.why(x, 3, 8, -5);
        // One that is ahead for another block, or may not enter, does not count.
        LineDispatcher y = CHECK.line("L5,5;S1:1;T1>0p5@0h1;T0>2p1@1;T2>0p9@1;T0>2p7@1h4");
        CHECK.until(y, 1);
        CHECK.text(y, "S1:2", 1);
        CHECK.order(y, 2, 3, 0, 1);
        CHECK.why(y, 1, 8, -5);
        CHECK.why(y, 2, 8, -5);
        CHECK.why(y, 3, 6, 1);
    }

    private static void anotherTrainAhead() {
        CHECK.sentence("as all is now; 8 it may run");
        // Train 2 keeps the one track of station 1; train 0 came earlier, and train 1 has the higher priority.
        LineDispatcher x = CHECK.line("L5,5;S1:1;T0>2p1@1;T0>2p9@3;T1>2p0@0h4");
        CHECK.until(x, 5);
        CHECK.text(x, "S1:2", 1);
        CHECK.why(x, 0, 7, 1);
        CHECK.why(x, 1, 8, -5);
        CHECK.text(x, "W4", 1);
        CHECK.why(x, 1, 7, 0);
        CHECK.why(x, 0, 8, -5);
        CHECK.text(x, "S1:1", 1);
        CHECK.why(x, 1, 5, 1);
        CHECK.why(x, 0, 5, 1);
    }

    private static void noNumber() {
        CHECK.sentence("the first such train with 7; otherwise -5");
        LineDispatcher x = CHECK.line("L5,5;S1:1;T1>0p1@0h1;T0>2p1@0;T0>1p1@9");
        CHECK.until(x, 1);
        CHECK.text(x, "S1:2", 1);
        CHECK.why(x, 1, 8, -5);
        CHECK.until(x, 2);
        CHECK.why(x, 1, 0, -5);
        CHECK.due("cancel(2)", x.cancel(2), 1);
        CHECK.why(x, 2, 0, -5);
        CHECK.until(x, 12);
        CHECK.states(x, 1, 4);
        CHECK.why(x, 1, 0, -5);
    }

    private static void noTrainToAskFor() {
        CHECK.sentence("Returns the number; NONE if there is no such train or what is invalid.");
        LineDispatcher x = CHECK.line("L5;T0>1p1@0;T0>1p1@90");
        for (int what : new int[] {-1, 2, FAR[0], FAR[1]}) CHECK.due("why(0, " + what + ")", x.why(0, what), -1);
        for (int train : new int[] {-1, 2, 10, FAR[0], FAR[1]}) CHECK.due("why(" + train + ", 0)", x.why(train, 0), -1);
    }

    private static void positions() {
        CHECK.sentence("the position, from 0, or -1 for the number of trains in stations that are not in relief");
        LineDispatcher x = CHECK.line("L5,5;S1:4;T0>2p9@0h9;T1>0p1@0h1;T1>0p1@0h1;T0>1p1@99");
        CHECK.order(x);
        CHECK.due("order(0)", x.order(0), -1);
        CHECK.until(x, 6);
        CHECK.states(x, 3, 1, 1, 0);
        CHECK.order(x, 1, 2);
        for (int i : new int[] {-2, 2, 3, FAR[0], FAR[1]}) CHECK.due("order(" + i + ")", x.order(i), -1);
    }
}
