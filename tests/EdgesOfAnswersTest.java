/**
 * The boundaries that the document's sections "Accounts" and "Snapshot" and its promises 6, 7, 9 to 11 and 18 to 23
 * name, one by one.
 */
public final class EdgesOfAnswersTest {
    private static final Check CHECK = new Check();
    private static final int[] FAR = {Integer.MIN_VALUE, Integer.MAX_VALUE};
    private static final int RESTS = 0, ENDED = 1, RUNS = 2, WAITS = 3, OUTSIDE = 4, REMOVED = 5;

    public static void main(String[] args) {
        onlyTrainsThatAreOutside();
        noTrainToCancel();
        aNumberStaysUsed();
        noSlowOrder();
        ordersThatRemain();
        lowerNumbersOfOrders();
        ordersKeepTheirMinutes();
        states();
        places();
        beginnings();
        endings();
        crews();
        reliefsSoFar();
        noProperty();
        propertiesOfAStation();
        trainsThatHaveCome();
        noStation();
        propertiesOfABlock();
        theTrainInABlock();
        minutesUpToThePresent();
        noBlock();
        enteredAtThisMinuteOrBefore();
        notSoFar();
        upToThePresentMinute();
        theLowestTrain();
        noConflicts();
        fromTheReadyMinute();
        upToTheEnd();
        theWayAlone();
        noAccount();
        inPlaceOfAnEarlierOne();
        thePresentMinute();
        itStays();
        noSnapshot();
        everythingButThese();
        itGoesOnAlike();
        noStationsWithoutALine();
        counts();
        theGreatestNumberOfMinutes();
        noCount();
        CHECK.end();
    }

    /** At minute 12: a train in each state, numbered as the constants are. */
    private static LineDispatcher allStates() {
        LineDispatcher x = CHECK.line("L5,7,9;S1:2r;T0>2p3@0+1h9;T3>2p1@0;T2>3p1@11;T0>1p1@4h1");
        CHECK.text(x, "T0>1p1@30;T0>1p1@40", 2);
        CHECK.until(x, 12);
        CHECK.due("cancel(5)", x.cancel(REMOVED), 1);
        return x;
    }

    private static void properties(int what, int... due) {
        LineDispatcher x = allStates();
        for (int train = 0; train < due.length; train++) {
            CHECK.due("train(" + train + ", " + what + ")", x.train(train, what), due[train]);
        }
    }

    private static void onlyTrainsThatAreOutside() {
        CHECK.sentence("Returns 1 if it is removed, 0 if it is not outside");
        int[] due = {0, 0, 0, 0, 1, -1};
        LineDispatcher x = allStates();
        for (int train = 0; train < due.length; train++) CHECK.due("cancel(" + train + ")", x.cancel(train), due[train]);
        CHECK.states(x, 3, 4, 2, 1, 5, 5);
        // A train that is ready is outside as long as there is no track for it.
        LineDispatcher y = CHECK.line("L5;S0:1;T0>1p1@0h1;T0>1p1@0;T0>1p1@5");
        CHECK.until(y, 4);
        CHECK.due("cancel(1)", y.cancel(1), 1);
        CHECK.text(y, "S0:2", 1);
        CHECK.until(y, 5);
        CHECK.states(y, 1, 5, 2);
    }

    private static void noTrainToCancel() {
        CHECK.sentence("NONE if there is no such train, or it was removed");
        LineDispatcher x = CHECK.line("L5;T0>1p1@9;T0>1p1@9");
        for (int train : new int[] {-1, 2, 9, 10, FAR[0], FAR[1]}) CHECK.due("cancel(" + train + ")", x.cancel(train), -1);
        CHECK.due("cancel(1)", x.cancel(1), 1);
        CHECK.due("cancel(1)", x.cancel(1), -1);
        CHECK.due("cancel(0)", x.cancel(0), 1);
        CHECK.due("without a line", new LineDispatcher().cancel(0), -1);
    }

    private static void aNumberStaysUsed() {
        CHECK.sentence("Removes a train that is outside. Its number stays used.");
        LineDispatcher x = CHECK.line("L5;T0>1p1@7;T0>1p1@8");
        CHECK.due("cancel(1)", x.cancel(1), 1);
        CHECK.text(x, "T0>1p1@9", 1);
        int[] ready = {7, 8, 9};
        for (int train = 0; train < 3; train++) CHECK.due("train(" + train + ", 3)", x.train(train, 3), ready[train]);
        CHECK.due("count(2)", x.count(2), 3);
        CHECK.until(x, 50);
        CHECK.states(x, 4, 5, 4);
    }

    private static void noSlowOrder() {
        CHECK.sentence("NONE if there is no such slow order");
        LineDispatcher x = CHECK.line("L5;O0+1@0-9;O0+2@0-9");
        for (int order : new int[] {-1, 2, 5, 6, FAR[0], FAR[1]}) CHECK.due("lift(" + order + ")", x.lift(order), -1);
        CHECK.due("count(5)", x.count(5), 2);
        CHECK.due("lift(1)", x.lift(1), 1);
        CHECK.due("lift(1)", x.lift(1), -1);
        CHECK.due("lift(0)", x.lift(0), 0);
        CHECK.due("lift(0)", x.lift(0), -1);
        CHECK.due("without a line", new LineDispatcher().lift(0), -1);
    }

    private static void ordersThatRemain() {
        CHECK.sentence("Returns the number of slow orders that remain");
        LineDispatcher x = CHECK.line("L5;O0+1@0-9;O0+2@0-9;O0+4@0-9;O0+8@0-9;O0+16@0-9");
        CHECK.text(x, "O0+32@0-9", 1);
        for (int remain = 5; remain >= 0; remain--) {
            CHECK.due("lift(" + remain + ")", x.lift(remain), remain);
            CHECK.due("block(0, 2)", x.block(0, 2), (1 << remain) - 1);
        }
    }

    private static void lowerNumbersOfOrders() {
        CHECK.sentence("those behind it get lower numbers");
        for (int order = 0; order < 6; order++) {
            LineDispatcher x = CHECK.line("L5;O0+1@0-9;O0+2@0-9;O0+4@0-9;O0+8@0-9;O0+16@0-9");
            CHECK.text(x, "O0+32@0-9", 1);
            CHECK.due("lift(" + order + ")", x.lift(order), 5);
            CHECK.due("without this one", x.block(0, 2), 63 - (1 << order));
            CHECK.due("lift(" + order + ") again", x.lift(order), order == 5 ? -1 : 4);
            CHECK.due("without the one behind it", x.block(0, 2), order == 5 ? 31 : 63 - (3 << order));
        }
    }

    private static void ordersKeepTheirMinutes() {
        CHECK.sentence("Removes a slow order; those behind it get lower numbers");
        LineDispatcher x = CHECK.line("L5,5;O0+1@1-9;O0+2@3-5;O1+4@4-6");
        CHECK.due("lift(0)", x.lift(0), 2);
        int[] first = {0, 0, 0, 2, 2, 0, 0};
        int[] second = {0, 0, 0, 0, 4, 4, 0};
        for (int minute = 0; minute < first.length; minute++) {
            CHECK.until(x, minute);
            CHECK.due("at " + minute + " block(0, 2)", x.block(0, 2), first[minute]);
            CHECK.due("at " + minute + " block(1, 2)", x.block(1, 2), second[minute]);
        }
    }

    private static void states() {
        CHECK.sentence("0 its state: 0 outside, 1 in a station, 2 in a block, 3 in relief, 4 ended, 5 removed");
        properties(0, 3, 4, 2, 1, 0, 5);
    }

    private static void places() {
        CHECK.sentence("1 its station or block, -5 outside, ended and removed");
        properties(1, 1, -5, 2, 0, -5, -5);
        LineDispatcher x = CHECK.line("L1,1,1,1,1,1,50;T0>7p1@0;T7>0p1@90");
        CHECK.until(x, 7);
        CHECK.due("the last block, upwards", x.train(0, 1), 6);
        CHECK.until(x, 90);
        CHECK.due("the last block, downwards", x.train(1, 1), 6);
        CHECK.until(x, 140);
        CHECK.due("the last but one, downwards", x.train(1, 1), 5);
    }

    private static void beginnings() {
        CHECK.sentence("6 the minute at which the state began, also that of the removal, the ready minute outside");
        properties(6, 7, 10, 11, 4, 30, 12);
        // A train that is ready, and outside still, keeps its ready minute.
        LineDispatcher x = CHECK.line("L5;S0:1;T0>1p1@0h1;T0>1p1@3");
        CHECK.until(x, 9);
        CHECK.due("train(1, 6)", x.train(1, 6), 3);
        CHECK.due("train(0, 6)", x.train(0, 6), 1);
        through(6, 1, 6, 6, 16, 16, 26, 26, 36, 36, 45);
    }

    /** A train that waits in station 1 from 6 to 16, rests there, waits again from 26 to 36, and ends at 45. */
    private static void through(int what, int... due) {
        LineDispatcher x = CHECK.line("L5,9;S1:2r;T0>2p1@0h20;T2>1p1@0+6;T1>2p9@26+1");
        int[] minutes = {1, 6, 15, 16, 25, 26, 35, 36, 44, 45};
        int[] states = {2, 1, 1, 3, 3, 1, 1, 2, 2, 4};
        for (int i = 0; i < minutes.length; i++) {
            CHECK.until(x, minutes[i]);
            CHECK.due("at " + minutes[i] + " train(0, 0)", x.train(0, 0), states[i]);
            CHECK.due("at " + minutes[i] + " train(0, " + what + ")", x.train(0, what), due[i]);
        }
    }

    private static void endings() {
        CHECK.sentence("7 the minute at which it will leave its block or its relief will end, -5 in other states");
        properties(7, 17, -5, 20, -5, -5, -5);
        through(7, 6, -5, -5, 26, 26, -5, -5, 45, 45, -5);
    }

    private static void crews() {
        CHECK.sentence("8 the minute at which its crew began, -5 outside, in relief, ended and removed");
        properties(8, -5, -5, 11, 4, -5, -5);
        through(8, 1, 1, 1, -5, -5, 26, 26, 26, 26, -5);
    }

    private static void reliefsSoFar() {
        CHECK.sentence("9 the reliefs that it has had, one that is going on included");
        properties(9, 1, 0, 0, 0, 0, 0);
        LineDispatcher x = CHECK.line("L5,5,5;S1:2r;T0>3p1@0h5");
        CHECK.due("relief(2)", x.relief(2), 10);
        int[] minutes = {5, 6, 7, 8, 12, 13, 18, 19, 24, 99};
        int[] due = {0, 1, 1, 1, 1, 2, 2, 2, 2, 2};
        for (int i = 0; i < due.length; i++) {
            CHECK.until(x, minutes[i]);
            CHECK.due("at " + minutes[i] + " train(0, 9)", x.train(0, 9), due[i]);
        }
    }

    private static void noProperty() {
        CHECK.sentence("Returns the property; NONE if there is no such train or what is invalid");
        LineDispatcher x = allStates();
        for (int train = 0; train < 6; train++) {
            for (int what : new int[] {-1, 10, FAR[0], FAR[1]}) CHECK.due("train(" + train + ", " + what + ")", x.train(train, what), -1);
        }
        for (int train : new int[] {-1, 6, 9, 10, FAR[0], FAR[1]}) CHECK.due("train(" + train + ", 0)", x.train(train, 0), -1);
        CHECK.text(x, "L5", 1);
        CHECK.due("on a new line", x.train(0, 0), -1);
    }

    private static void station(LineDispatcher x, int station, int... due) {
        for (int what = 0; what < due.length; what++) {
            CHECK.due("station(" + station + ", " + what + ")", x.station(station, what), due[what]);
        }
    }

    private static void propertiesOfAStation() {
        CHECK.sentence("3 the trains that are in it, bit t for the train t");
        LineDispatcher x = allStates();
        station(x, 0, 2, 1, 0, 1 << WAITS);
        station(x, 1, 2, 1, 1, 1 << RESTS);
        station(x, 2, 2, 0, 0, 0);
        station(x, 3, 2, 0, 0, 0);
        // The last number that a train can have.
        LineDispatcher y = CHECK.line("L5;T0>1p1@99;T0>1p1@99;T0>1p1@99;T0>1p1@99;T0>1p1@99");
        CHECK.text(y, "T0>1p1@99;T0>1p1@99;T0>1p1@99;T1>0p1@0h1;T1>0p1@0h1", 5);
        CHECK.until(y, 1);
        station(y, 0, 2, 0, 0, 0);
        station(y, 1, 2, 2, 0, 256 + 512);
    }

    private static void trainsThatHaveCome() {
        CHECK.sentence("4 the trains that have come into it so far, those that began there included");
        LineDispatcher x = allStates();
        int[] due = {2, 1, 2, 1};
        for (int station = 0; station < 4; station++) CHECK.due("station(" + station + ", 4)", x.station(station, 4), due[station]);
        CHECK.until(x, 20);
        CHECK.due("train 2 has ended", x.station(3, 4), 2);
        CHECK.due("train 0 is on its way", x.station(2, 4), 2);
        CHECK.until(x, 25);
        CHECK.due("train 0 has ended", x.station(2, 4), 3);
    }

    private static void noStation() {
        CHECK.sentence("STATE if there is no line; NONE if there is no such station or what is invalid");
        LineDispatcher x = new LineDispatcher();
        for (int station : new int[] {-1, 0, 8}) CHECK.due("station(" + station + ", 9)", x.station(station, 9), -3);
        LineDispatcher y = allStates();
        for (int station : new int[] {-1, 4, 7, 8, FAR[0], FAR[1]}) CHECK.due("station(" + station + ", 0)", y.station(station, 0), -1);
        for (int what : new int[] {-1, 5, FAR[0], FAR[1]}) CHECK.due("station(3, " + what + ")", y.station(3, what), -1);
    }

    private static void propertiesOfABlock() {
        CHECK.sentence("2 the minutes of slow orders for a train that entered it now");
        LineDispatcher x = CHECK.line("L5,9;O0+3@2-4;O0+9999@3-5;O1+1@0-1");
        int[] due = {0, 0, 3, 10002, 9999, 0};
        for (int minute = 0; minute < due.length; minute++) {
            CHECK.until(x, minute);
            CHECK.due("at " + minute + " block(0, 2)", x.block(0, 2), due[minute]);
            CHECK.due("at " + minute + " block(1, 2)", x.block(1, 2), minute == 0 ? 1 : 0);
        }
        LineDispatcher y = CHECK.line("L5;O0+9999@0-9;O0+9999@0-9;O0+9999@0-9;O0+9999@0-9");
        CHECK.text(y, "O0+9999@0-9;O0+9999@0-9;T0>1p1@0h9999", 3);
        CHECK.due("the most minutes", y.block(0, 2), 59994);
        CHECK.until(y, 1);
        CHECK.why(y, 0, 6, 50000);
    }

    private static void theTrainInABlock() {
        CHECK.sentence("1 the train in it, -5 if there is none");
        LineDispatcher x = CHECK.line("L5;T0>1p1@3");
        int[] minutes = {0, 2, 3, 7, 8};
        int[] due = {-5, -5, 0, 0, -5};
        for (int i = 0; i < due.length; i++) {
            CHECK.until(x, minutes[i]);
            CHECK.due("at " + minutes[i] + " block(0, 1)", x.block(0, 1), due[i]);
        }
        LineDispatcher y = allStates();
        int[] trains = {-5, -5, RUNS};
        for (int block = 0; block < 3; block++) CHECK.due("block(" + block + ", 1)", y.block(block, 1), trains[block]);
    }

    private static void minutesUpToThePresent() {
        CHECK.sentence("3 the minutes for which it was taken so far, up to the present");
        LineDispatcher x = CHECK.line("L5;T0>1p1@3;T1>0p1@3;T0>1p1@15h1");
        int[] minutes = {2, 3, 4, 7, 8, 9, 13, 14, 50};
        int[] taken = {0, 0, 1, 4, 5, 6, 10, 10, 10};
        int[] entered = {0, 1, 1, 1, 2, 2, 2, 2, 2};
        for (int i = 0; i < taken.length; i++) {
            CHECK.until(x, minutes[i]);
            CHECK.due("at " + minutes[i] + " block(0, 3)", x.block(0, 3), taken[i]);
            CHECK.due("at " + minutes[i] + " block(0, 4)", x.block(0, 4), entered[i]);
        }
    }

    private static void noBlock() {
        CHECK.sentence("STATE if there is no line; NONE if there is no such block or what is invalid");
        LineDispatcher x = new LineDispatcher();
        for (int block : new int[] {-1, 0, 7}) CHECK.due("block(" + block + ", 9)", x.block(block, 9), -3);
        LineDispatcher y = allStates();
        for (int block : new int[] {-1, 3, 6, 7, FAR[0], FAR[1]}) CHECK.due("block(" + block + ", 0)", y.block(block, 0), -1);
        for (int what : new int[] {-1, 5, FAR[0], FAR[1]}) CHECK.due("block(2, " + what + ")", y.block(2, what), -1);
    }

    private static void held(LineDispatcher x, int block, String due) {
        for (int minute = 0; minute < due.length(); minute++) {
            int train = due.charAt(minute) == '-' ? -5 : due.charAt(minute) - '0';
            CHECK.due("at " + x.count(0) + " held(" + block + ", " + minute + ")", x.held(block, minute), train);
        }
    }

    private static void enteredAtThisMinuteOrBefore() {
        CHECK.sentence("it entered the block at this minute or before, and came into the next station later than at this minute");
        LineDispatcher x = CHECK.line("L3,4;T0>2p1@2;T2>0p1@9");
        CHECK.until(x, 18);
        held(x, 0, "--000--------111---");
        held(x, 1, "-----00001111------");
    }

    private static void notSoFar() {
        CHECK.sentence("or not so far");
        LineDispatcher x = CHECK.line("L9;T1>0p1@2");
        CHECK.until(x, 2);
        held(x, 0, "--0");
        CHECK.until(x, 10);
        held(x, 0, "--000000000");
        CHECK.until(x, 11);
        held(x, 0, "--000000000-");
    }

    private static void upToThePresentMinute() {
        CHECK.sentence("BAD if minute is negative or above the present one");
        LineDispatcher x = CHECK.line("L5");
        for (int present : new int[] {0, 1, 700}) {
            CHECK.until(x, present);
            for (int minute : new int[] {-1, present + 1, FAR[0], FAR[1]}) CHECK.due("held(0, " + minute + ")", x.held(0, minute), -2);
            CHECK.due("held(0, 0)", x.held(0, 0), -5);
            CHECK.due("held(0, " + present + ")", x.held(0, present), -5);
        }
        for (int block : new int[] {-1, 1, 7, FAR[0], FAR[1]}) CHECK.due("held(" + block + ", 0)", x.held(block, 0), -1);
    }

    private static void theLowestTrain() {
        CHECK.sentence("Returns the lowest such train, -5 if there is none");
        // Trains 0 and 1 enter the block at the minutes at which trains 2 and 0 leave it.
        LineDispatcher x = CHECK.line("L3;S0:3;T0>1p2@0;T0>1p1@0;T0>1p3@0");
        held(x, 0, "-");
        CHECK.until(x, 11);
        held(x, 0, "-222000111--");
    }

    private static void noConflicts() {
        CHECK.sentence("Returns how many pairs of trains ever held a block at the same minute, by arrivals and departures");
        LineDispatcher x = new LineDispatcher();
        CHECK.due("without a line", x.conflicts(), 0);
        CHECK.text(x, "L3;S0:3;T0>1p2@0;T0>1p1@0;T0>1p3@0;T1>0p1@0", 6);
        for (int minute = 0; minute < 20; minute++) {
            CHECK.until(x, minute);
            CHECK.due("at " + minute + " conflicts()", x.conflicts(), 0);
        }
        CHECK.due("all have ended", x.count(4), 4);
    }

    private static void accounts(LineDispatcher x, int train, int... due) {
        for (int what = 0; what < due.length; what++) {
            CHECK.due("at " + x.count(0) + " account(" + train + ", " + what + ")", x.account(train, what), due[what]);
        }
    }

    private static void fromTheReadyMinute() {
        CHECK.sentence("From its ready minute to the present");
        LineDispatcher x = CHECK.line("L5;S0:1;T0>1p1@0h1;T0>1p1@9");
        CHECK.until(x, 9);
        accounts(x, 0, 1, 0, 0, 8, 9);
        accounts(x, 1, 0, 0, 0, 0, 0);
        CHECK.until(x, 10);
        accounts(x, 1, 1, 0, 0, 0, 1);
        CHECK.text(x, "T1>0p1@10", 1);
        accounts(x, 2, 0, 0, 0, 0, 0);
        CHECK.until(x, 11);
        accounts(x, 2, 1, 0, 0, 0, 1);
        CHECK.until(x, 12);
        accounts(x, 1, 3, 0, 0, 0, 3);
        accounts(x, 2, 1, 1, 0, 0, 2);
        LineDispatcher y = allStates();
        accounts(y, RESTS, 1, 6, 5, 0, 12);
        accounts(y, RUNS, 0, 1, 0, 0, 1);
        accounts(y, WAITS, 0, 0, 0, 8, 8);
        accounts(y, OUTSIDE, 0, 0, 0, 0, 0);
    }

    private static void upToTheEnd() {
        CHECK.sentence("to the present, or to its end, each minute of a train is counted");
        LineDispatcher x = allStates();
        accounts(x, ENDED, 1, 9, 0, 0, 10);
        LineDispatcher y = CHECK.line("L5;T0>1p1@3");
        CHECK.until(y, 7);
        accounts(y, 0, 0, 4, 0, 0, 4);
        CHECK.until(y, 8);
        accounts(y, 0, 0, 5, 0, 0, 5);
        CHECK.until(y, 9);
        accounts(y, 0, 0, 5, 0, 0, 5);
        CHECK.until(y, 500);
        accounts(y, 0, 0, 5, 0, 0, 5);
    }

    private static void theWayAlone() {
        CHECK.sentence("from its first station to its last one without waiting, reliefs and slow orders");
        LineDispatcher x = CHECK.line("L1,2,4,8,16,32,64;O0+99@0-999;T0>7p1@0;T7>0p1@0+9");
        CHECK.text(x, "T0>1p1@0;T6>7p1@0+1;T7>6p1@0;T5>1p1@0+2", 4);
        int[] due = {127, 127 + 63, 1, 65, 64, 30 + 8};
        for (int train = 0; train < due.length; train++) CHECK.due("account(" + train + ", 5)", x.account(train, 5), due[train]);
    }

    private static void noAccount() {
        CHECK.sentence("NONE if there is no such train, it was removed, or what is invalid");
        LineDispatcher x = allStates();
        for (int what = -1; what <= 6; what++) CHECK.due("account(5, " + what + ")", x.account(REMOVED, what), -1);
        for (int train : new int[] {-1, 6, 9, 10, FAR[0], FAR[1]}) CHECK.due("account(" + train + ", 0)", x.account(train, 0), -1);
        for (int train = 0; train < REMOVED; train++) {
            for (int what : new int[] {-1, 6, FAR[0], FAR[1]}) {
                CHECK.due("account(" + train + ", " + what + ")", x.account(train, what), -1);
            }
        }
    }

    private static void inPlaceOfAnEarlierOne() {
        CHECK.sentence("Takes a snapshot, in place of an earlier one.");
        LineDispatcher x = CHECK.line("L5");
        for (int minute : new int[] {3, 5, 9}) {
            CHECK.until(x, minute);
            CHECK.due("image()", x.image(), minute);
        }
        CHECK.until(x, 20);
        CHECK.due("undo()", x.undo(), 9);
        CHECK.due("image()", x.image(), 9);
        CHECK.due("undo()", x.undo(), 9);
    }

    private static void thePresentMinute() {
        CHECK.sentence("Takes a snapshot, in place of an earlier one. Returns the present minute.");
        LineDispatcher x = new LineDispatcher();
        CHECK.due("without a line", x.image(), 0);
        CHECK.text(x, "L5", 1);
        CHECK.until(x, 9999);
        CHECK.due("at the last minute", x.image(), 9999);
        CHECK.due("undo()", x.undo(), 9999);
        CHECK.due("pass(1)", x.pass(1), -4);
    }

    private static void itStays() {
        CHECK.sentence("Restores the snapshot, which stays.");
        LineDispatcher x = CHECK.line("L9;T0>1p1@0;T1>0p2@3");
        CHECK.until(x, 5);
        String before = Check.all(x);
        CHECK.due("image()", x.image(), 5);
        for (int i = 1; i <= 3; i++) {
            CHECK.text(x, i == 2 ? "L9;T0>1p1@20" : "W9;S0:4;T0>1p1@20", i == 2 ? 2 : 3);
            CHECK.until(x, 5 + 9 * i);
            CHECK.due("undo()", x.undo(), 5);
            CHECK.same("after undo " + i, Check.all(x), before);
        }
    }

    private static void noSnapshot() {
        CHECK.sentence("STATE if there is no snapshot");
        CHECK.due("undo() of a new object", new LineDispatcher().undo(), -3);
        LineDispatcher x = CHECK.line("L5");
        CHECK.until(x, 3);
        CHECK.due("undo()", x.undo(), -3);
        CHECK.due("image()", x.image(), 3);
        CHECK.due("undo()", x.undo(), 3);
        CHECK.text(x, "L5", 1);
        CHECK.due("a new line does not drop it", x.undo(), 3);
    }

    private static void everythingButThese() {
        CHECK.sentence("The snapshot contains everything but itself, the plan, the tape and the latest refusal.");
        LineDispatcher x = CHECK.line("L5;O0+1@0-9");
        CHECK.until(x, 1);
        CHECK.due("plan(5)", x.plan(5), 0);
        CHECK.feed(x, "W7");
        CHECK.due("image()", x.image(), 1);
        CHECK.due("execute()", x.execute(), 1);
        CHECK.text(x, "L9,9;S0:1;W;", -111);
        CHECK.feed(x, "W8");
        CHECK.due("lift(0)", x.lift(0), 0);
        CHECK.due("relief(9)", x.relief(9), 10);
        CHECK.due("pass(7)", x.pass(7), 8);
        CHECK.due("undo()", x.undo(), 1);
        int[] due = {1, 2, 0, 0, 0, 1, 60, 2, 10, 0};
        for (int what = 0; what < due.length; what++) CHECK.due("count(" + what + ")", x.count(what), due[what]);
        CHECK.due("the slow order is back", x.block(0, 2), 1);
        CHECK.due("the refusal stays", x.refusal(0), 11);
        CHECK.due("the plan does not come back", x.drift(), -5);
        CHECK.due("the tape stays", x.execute(), 1);
        CHECK.due("count(6)", x.count(6), 8);
    }

    /** A snapshot knows of each train, each slow order and each station what it needs to go on alike. */
    private static void itGoesOnAlike() {
        CHECK.sentence("Restores the snapshot");
        for (int present : new int[] {0, 1, 5, 7, 12, 20}) {
            for (int later : new int[] {0, 1, 3, 9, 70}) goesOnAlike(present, present + later);
        }
    }

    private static void goesOnAlike(int present, int later) {
        LineDispatcher x = manyTrains();
        CHECK.until(x, present);
        CHECK.due("image()", x.image(), present);
        String other = ";T3>1p9@" + (present + 1) + "+7h77";
        CHECK.text(x, "L8,8,8" + other + other + other, 4);
        CHECK.text(x, other.substring(1) + ";O2+9@0-9;O2+7@9-99;S0:1;S1:4;W33", 6);
        CHECK.due("relief(33)", x.relief(33), 10);
        CHECK.due("pass(50)", x.pass(50), present + 50);
        CHECK.due("undo()", x.undo(), present);
        CHECK.until(x, later);
        LineDispatcher y = manyTrains();
        CHECK.until(y, later);
        CHECK.same("at " + later + " after undo at " + present, Check.all(x), Check.all(y));
    }

    private static LineDispatcher manyTrains() {
        LineDispatcher x = CHECK.line("L5,9;S0:4;S1:3r;W9;T0>2p1@0h9;T0>2p2@1h20;T0>1p3@2+1h9");
        CHECK.text(x, "O0+2@3-8;O1+3@6-20;T2>0p1@4h20", 3);
        return x;
    }

    private static void noStationsWithoutALine() {
        CHECK.sentence("1 the stations, 0 without a line");
        LineDispatcher x = new LineDispatcher();
        CHECK.due("count(1)", x.count(1), 0);
        CHECK.due("image()", x.image(), 0);
        CHECK.text(x, "L5,0", -200);
        CHECK.due("count(1)", x.count(1), 0);
        CHECK.text(x, "L5,5,5,5,5,5,5", 1);
        CHECK.due("count(1)", x.count(1), 8);
        CHECK.text(x, "L5", 1);
        CHECK.due("count(1)", x.count(1), 2);
        CHECK.due("undo()", x.undo(), 0);
        CHECK.due("count(1)", x.count(1), 0);
    }

    private static void counts() {
        CHECK.sentence("2 the trains that were ever on this line; 3 those outside; 4 those that have ended; 5 the slow orders");
        LineDispatcher x = allStates();
        int[] due = {12, 4, 6, 1, 1, 0, 60, 0, 10, 8};
        for (int what = 0; what < due.length; what++) CHECK.due("count(" + what + ")", x.count(what), due[what]);
        CHECK.until(x, 200);
        CHECK.due("outside", x.count(3), 0);
        CHECK.due("ended", x.count(4), 4);
        CHECK.due("ever", x.count(2), 6);
    }

    private static void theGreatestNumberOfMinutes() {
        CHECK.sentence("9 the greatest number of minutes that a train now is in its station, reliefs included");
        LineDispatcher x = CHECK.line("L5,5;S1:2r;T0>2p1@0h9;T2>1p1@14h4");
        // Train 0 is in station 1 from 6 to 16, in relief; train 1 in station 2 from 14 on.
        int[] minutes = {0, 1, 5, 6, 7, 15, 16, 17, 514};
        int[] due = {0, 0, 0, 0, 1, 9, 2, 3, 500};
        for (int i = 0; i < due.length; i++) {
            CHECK.until(x, minutes[i]);
            CHECK.due("at " + minutes[i] + " count(9)", x.count(9), due[i]);
        }
    }

    private static void noCount() {
        CHECK.sentence("Returns the count; NONE if what is invalid");
        for (int what : new int[] {-1, 10, FAR[0], FAR[1]}) {
            CHECK.due("count(" + what + ")", new LineDispatcher().count(what), -1);
            CHECK.due("count(" + what + ")", allStates().count(what), -1);
        }
    }
}
