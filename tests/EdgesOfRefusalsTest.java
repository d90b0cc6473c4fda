/** The boundaries that commands and their refusals in the document's section "Commands" name, one by one. */
public final class EdgesOfRefusalsTest {
    private static final Check CHECK = new Check();
    private static final String TRAIN = "T0>1p1@9", ORDER = "O0+1@9-10";

    public static void main(String[] args) {
        inTheirOrder();
        aNewLine();
        newTrainsBeginAnew();
        tracksAndRelief();
        extra();
        hours();
        minutesOfASlowOrder();
        theFirstWaitingBound();
        noLine();
        theFirstPlaceThatIsNone();
        tenTrains();
        removedTrains();
        endedTrains();
        trainsOfTheCommandsAhead();
        sixOrders();
        ordersOfTheCommandsAhead();
        lengthsOutOfRange();
        tracksOutOfRange();
        fewerTracksThanTrains();
        fewerTracksThanTrainsThatCome();
        equalStations();
        readyBeforeThePresent();
        noHours();
        endsOfSlowOrders();
        noWaitingBound();
        theNumbersTold();
        placesFirst();
        thenTheLimits();
        thenTheNumbers();
        CHECK.end();
    }

    private static String many(String command, int times) {
        StringBuilder text = new StringBuilder(command);
        for (int i = 1; i < times; i++) text.append(';').append(command);
        return text.toString();
    }

    private static LineDispatcher nineTrains() {
        LineDispatcher x = CHECK.line("L5;S0:4;" + many(TRAIN, 4));
        CHECK.text(x, many(TRAIN, 5), 5);
        return x;
    }

    private static void inTheirOrder() {
        CHECK.sentence("The commands are carried out in their order, all or none");
        LineDispatcher x = CHECK.line("W5;L5;S0:3;W6;S0:4;W7");
        CHECK.due("the last W", x.count(6), 7);
        CHECK.due("the last S", x.station(0, 0), 4);
        CHECK.refused(x, "S2:1;L5,5", 0, 2, 2);
        CHECK.due("none", x.count(1), 2);
        CHECK.text(x, "L5,5;S2:1", 2);
        CHECK.due("all", x.station(2, 0), 1);
        CHECK.refused(x, "L9;W9;S2:1", 2, 2, 2);
        CHECK.due("none", x.count(1), 3);
        CHECK.due("none", x.count(6), 7);
    }

    private static void aNewLine() {
        CHECK.sentence("all trains and slow orders are removed, the waiting bound, the parameter of reliefs and the time stay");
        LineDispatcher x = CHECK.line("L5;W7;" + TRAIN + ";T0>1p1@0;" + ORDER);
        CHECK.due("relief(0)", x.relief(0), 10);
        CHECK.until(x, 3);
        CHECK.text(x, "L5", 1);
        int[] due = {3, 2, 0, 0, 0, 0, 7, 0, 0, 0};
        for (int what = 0; what < due.length; what++) CHECK.due("count(" + what + ")", x.count(what), due[what]);
        CHECK.due("train(0, 0)", x.train(0, 0), -1);
        CHECK.due("lift(0)", x.lift(0), -1);
        CHECK.due("the block is free", x.block(0, 1), -5);
        CHECK.due("none has come", x.station(0, 4), 0);
        CHECK.due("none has entered", x.block(0, 4), 0);
        CHECK.due("it was not taken", x.block(0, 3), 0);
    }

    /** What trains have had under their numbers on the old line is nothing to those of a new one. */
    private static void newTrainsBeginAnew() {
        CHECK.sentence("makes a new line with blocks of these lengths; all trains and slow orders are removed");
        LineDispatcher x = CHECK.line("L5,5;S0:1;T0>2p1@0h9;T0>2p1@0h5;T2>0p2@0h4");
        CHECK.until(x, 60);
        CHECK.due("it waited outside", x.account(1, 0), 2);
        CHECK.due("it had reliefs", x.train(1, 9), 2);
        CHECK.text(x, "L5,5;T0>2p1@90;T0>2p1@90;T2>0p1@90", 4);
        for (int train = 0; train < 3; train++) {
            int[] due = {0, -5, 1, 90, 0, 480, 90, -5, -5, 0};
            for (int what = 0; what < 10; what++) CHECK.due("train(" + train + ", " + what + ")", x.train(train, what), due[what]);
            for (int what = 0; what < 5; what++) CHECK.due("account(" + train + ", " + what + ")", x.account(train, what), 0);
            for (int i = 0; i < 6; i++) CHECK.due("timetable(" + train + ", ..)", x.timetable(train, i % 3, i / 3), -5);
        }
    }

    private static void tracksAndRelief() {
        CHECK.sentence("S gives a station tracks, 1 to 4, and makes it a relief station, or none without r.");
        LineDispatcher x = CHECK.line("L5");
        String[] texts = {"S0:1", "S0:4r", "S0:0", "S0:5r", "S0:3", "S0:3r", "S0:3r"};
        int[] tracks = {1, 4, 4, 4, 3, 3, 3};
        int[] relief = {0, 1, 1, 1, 0, 1, 1};
        for (int i = 0; i < texts.length; i++) {
            CHECK.text(x, texts[i], i == 2 || i == 3 ? -200 : 1);
            CHECK.due("the tracks after " + texts[i], x.station(0, 0), tracks[i]);
            CHECK.due("the relief after " + texts[i], x.station(0, 2), relief[i]);
            CHECK.due("the other station", x.station(1, 0), 2);
        }
    }

    private static void extra() {
        CHECK.sentence("an extra of minutes for each block, 0 without +");
        String[] extras = {"", "+0", "+1", "+9"};
        int[] due = {0, 0, 1, 9};
        for (int i = 0; i < due.length; i++) {
            LineDispatcher x = CHECK.line("L5,7;T0>2p1@0" + extras[i]);
            CHECK.due("train(0, 4)", x.train(0, 4), due[i]);
            CHECK.until(x, 1);
            CHECK.due("the first block with '" + extras[i] + "'", x.train(0, 7), 6 + due[i]);
            CHECK.until(x, 6 + due[i]);
            CHECK.due("the second block with '" + extras[i] + "'", x.train(0, 7), 13 + 2 * due[i]);
        }
    }

    private static void hours() {
        CHECK.sentence("hours for its crews, in minutes, 480 without h");
        String[] orders = {"O0+475@0-9", "O0+476@0-9"};
        for (int i = 0; i < orders.length; i++) {
            LineDispatcher x = CHECK.line("L5;T0>1p1@0;" + orders[i]);
            CHECK.due("train(0, 5)", x.train(0, 5), 480);
            CHECK.until(x, 1);
            CHECK.states(x, i == 0 ? 2 : 1);
        }
        CHECK.due("the least hours", CHECK.line("L5;T0>1p1@0h1").train(0, 5), 1);
        CHECK.due("the most hours", CHECK.line("L5;T0>1p1@0h9999").train(0, 5), 9999);
    }

    private static void minutesOfASlowOrder() {
        CHECK.sentence("for trains that enter it from the minute after @ on, but before the minute after -");
        // The train enters the block at minute 5.
        String[] orders = {"O0+3@6-9", "O0+3@5-9", "O0+3@4-5", "O0+3@4-6", "O0+3@5-6", "O0+0@0-9999", "O0+9@0-9999"};
        int[] due = {10, 13, 10, 13, 13, 10, 19};
        for (int i = 0; i < due.length; i++) {
            LineDispatcher x = CHECK.line("L5;T0>1p1@5;" + orders[i]);
            CHECK.until(x, 5);
            CHECK.due("train(0, 7) with " + orders[i], x.train(0, 7), due[i]);
        }
    }

    private static void theFirstWaitingBound() {
        CHECK.sentence("W sets the waiting bound, initially 60");
        LineDispatcher x = CHECK.line("L5;T0>1p0@0h1;T0>1p9@2h1");
        CHECK.due("count(6)", x.count(6), 60);
        CHECK.until(x, 60);
        CHECK.order(x, 1, 0);
        CHECK.until(x, 61);
        CHECK.order(x, 0, 1);
        CHECK.text(x, "W9999", 1);
        CHECK.order(x, 1, 0);
        CHECK.text(x, "W1", 1);
        CHECK.due("count(6)", x.count(6), 1);
    }

    private static void noLine() {
        CHECK.sentence("1 there is no line, for S, T, O");
        for (String text : new String[] {"S0:1", "S7:0", "T0>1p1@0", "T0>0p1@0h0", "O0+1@0-1", "O7+1@1-0"}) {
            CHECK.refused(new LineDispatcher(), text, 0, 1, -5);
        }
        CHECK.text(new LineDispatcher(), "W1", 1);
        CHECK.text(new LineDispatcher(), "L5;S0:1;T0>1p1@0;O0+1@0-1", 4);
        CHECK.refused(new LineDispatcher(), "S0:1;L5", 0, 1, -5);
        LineDispatcher x = new LineDispatcher();
        x.image();
        CHECK.text(x, "L5", 1);
        x.undo();
        CHECK.refused(x, "S0:1", 0, 1, -5);
    }

    private static void theFirstPlaceThatIsNone() {
        CHECK.sentence("2 there is no such station or block, the number told then is the first such one");
        String[] right = {"S2:1", "T0>2p1@0", "T2>0p1@0", "O1+1@0-1"};
        for (String text : right) CHECK.text(CHECK.line("L5,5"), text, 1);
        String[] wrong = {"S3:1", "T3>0p1@0", "T0>3p1@0", "T3>4p1@0", "T4>3p1@0", "T3>3p1@0", "O2+1@0-1", "O7+1@0-1"};
        int[] told = {3, 3, 3, 3, 4, 3, 2, 7};
        for (int i = 0; i < wrong.length; i++) CHECK.refused(CHECK.line("L5,5"), wrong[i], 0, 2, told[i]);
        LineDispatcher x = CHECK.line("L1,1,1,1,1,1,1");
        CHECK.text(x, "S7:1;T0>7p1@0;T7>0p1@0;O6+1@0-1", 4);
        CHECK.refused(x, "O7+1@0-1", 0, 2, 7);
    }

    private static void tenTrains() {
        CHECK.sentence("3 a limit would be exceeded, of 10 trains that ever were on this line");
        LineDispatcher x = nineTrains();
        CHECK.text(x, TRAIN, 1);
        CHECK.due("count(2)", x.count(2), 10);
        CHECK.refused(x, TRAIN, 0, 3, 10);
        CHECK.due("count(2)", x.count(2), 10);
        CHECK.text(x, "L5;" + TRAIN, 2);
        CHECK.due("on a new line", x.count(2), 1);
    }

    private static void removedTrains() {
        CHECK.sentence("removed and ended ones and those of the commands ahead included");
        LineDispatcher x = nineTrains();
        for (int train = 0; train < 9; train++) CHECK.due("cancel(" + train + ")", x.cancel(train), 1);
        CHECK.text(x, TRAIN, 1);
        CHECK.due("cancel(9)", x.cancel(9), 1);
        CHECK.due("count(3)", x.count(3), 0);
        CHECK.refused(x, TRAIN, 0, 3, 10);
    }

    private static void endedTrains() {
        CHECK.sentence("removed and ended ones and those of the commands ahead included");
        LineDispatcher x = nineTrains();
        CHECK.text(x, TRAIN, 1);
        CHECK.until(x, 99);
        CHECK.due("count(4)", x.count(4), 10);
        CHECK.refused(x, "T0>1p1@99", 0, 3, 10);
    }

    private static void trainsOfTheCommandsAhead() {
        CHECK.sentence("removed and ended ones and those of the commands ahead included");
        LineDispatcher x = nineTrains();
        CHECK.refused(x, many(TRAIN, 2), 1, 3, 10);
        CHECK.due("count(2)", x.count(2), 9);
        CHECK.text(x, "L5;" + many(TRAIN, 4), 5);
        CHECK.text(x, many(TRAIN, 5), 5);
        CHECK.refused(x, "W5;" + many(TRAIN, 3), 2, 3, 10);
        CHECK.text(x, TRAIN, 1);
    }

    private static void sixOrders() {
        CHECK.sentence("or of 6 slow orders, the number told is the limit");
        LineDispatcher x = CHECK.line("L5;" + many(ORDER, 5));
        CHECK.text(x, ORDER, 1);
        CHECK.due("count(5)", x.count(5), 6);
        CHECK.refused(x, ORDER, 0, 3, 6);
        CHECK.until(x, 50);
        // They count when their minutes have passed, too, but not when they are lifted.
        CHECK.refused(x, "O0+1@60-70", 0, 3, 6);
        CHECK.due("lift(5)", x.lift(5), 5);
        CHECK.text(x, "O0+1@60-70", 1);
        CHECK.refused(x, ORDER, 0, 3, 6);
        CHECK.text(x, "L5;" + ORDER, 2);
    }

    private static void ordersOfTheCommandsAhead() {
        CHECK.sentence("or of 6 slow orders, the number told is the limit");
        LineDispatcher x = CHECK.line("L5;" + many(ORDER, 3));
        CHECK.refused(x, many(ORDER, 4), 3, 3, 6);
        CHECK.due("count(5)", x.count(5), 3);
        CHECK.text(x, many(ORDER, 3), 3);
        CHECK.text(x, "L5;" + many(ORDER, 5), 6);
        CHECK.due("count(5)", x.count(5), 5);
    }

    private static void lengthsOutOfRange() {
        CHECK.sentence("4 a number cannot be so: a length out of range");
        LineDispatcher x = new LineDispatcher();
        CHECK.refused(x, "L0", 0, 4, 0);
        CHECK.refused(x, "L100", 0, 4, 100);
        CHECK.refused(x, "L1,99,0", 0, 4, 0);
        CHECK.refused(x, "L1,99,100,0", 0, 4, 100);
        CHECK.refused(x, "L99,1,1,1,1,1,9999", 0, 4, 9999);
        CHECK.due("no line", x.count(1), 0);
        CHECK.text(x, "L1;L99;L99,1,99,1,99,1,99", 3);
    }

    private static void tracksOutOfRange() {
        CHECK.sentence("tracks out of range or fewer than the trains in the station");
        LineDispatcher x = CHECK.line("L5;S0:1;S0:4");
        for (int tracks : new int[] {0, 5, 6, 7, 8, 9}) {
            CHECK.refused(x, "S0:" + tracks, 0, 4, tracks);
            CHECK.refused(x, "S1:" + tracks + "r", 0, 4, tracks);
        }
        CHECK.due("station(0, 0)", x.station(0, 0), 4);
        CHECK.due("station(1, 2)", x.station(1, 2), 0);
    }

    private static void fewerTracksThanTrains() {
        CHECK.sentence("fewer than the trains in the station and those that go there and do not end there");
        LineDispatcher x = CHECK.line("L5;S0:4;T0>1p1@0h1;T0>1p1@0h1;T0>1p1@0h1");
        CHECK.text(x, "S0:1;S0:4", 2);
        CHECK.until(x, 1);
        CHECK.refused(x, "S0:2", 0, 4, 2);
        CHECK.refused(x, "S0:1r", 0, 4, 1);
        CHECK.text(x, "S0:3", 1);
        CHECK.text(x, "S1:1", 1);
        // A train in relief is in its station.
        LineDispatcher y = CHECK.line("L5,5;T0>2p1@0h9;T1>0p1@0h1");
        CHECK.until(y, 6);
        CHECK.states(y, 3, 1);
        CHECK.refused(y, "S1:1", 0, 4, 1);
        CHECK.text(y, "S1:2", 1);
    }

    private static void fewerTracksThanTrainsThatCome() {
        CHECK.sentence("and those that go there and do not end there");
        int[] goals = {2, 1};
        for (int goal : goals) {
            LineDispatcher x = CHECK.line("L5,5;T1>0p1@0h1;T0>" + goal + "p1@0");
            CHECK.until(x, 5);
            CHECK.states(x, 1, 2);
            if (goal == 2) CHECK.refused(x, "S1:1", 0, 4, 1);
            else CHECK.text(x, "S1:1", 1);
            CHECK.text(x, "S1:2", 1);
            // The station that it has left is free.
            CHECK.text(x, "S0:1", 1);
        }
        LineDispatcher y = CHECK.line("L5,5;T1>2p1@0h1;T2>0p1@0");
        CHECK.until(y, 5);
        CHECK.states(y, 1, 2);
        CHECK.refused(y, "S1:1", 0, 4, 1);
    }

    private static void equalStations() {
        CHECK.sentence("both stations of a train equal");
        LineDispatcher x = CHECK.line("L5,5");
        for (int station = 0; station < 3; station++) {
            CHECK.refused(x, "T" + station + ">" + station + "p1@0", 0, 4, station);
        }
        CHECK.text(x, "T0>1p1@0;T1>0p1@0;T1>2p1@0", 3);
    }

    private static void readyBeforeThePresent() {
        CHECK.sentence("a ready minute before the present one");
        LineDispatcher x = CHECK.line("L5;T0>1p1@0");
        CHECK.until(x, 500);
        for (int minute : new int[] {0, 1, 498, 499}) CHECK.refused(x, "T0>1p1@" + minute, 0, 4, minute);
        CHECK.text(x, "T0>1p1@500;T0>1p1@501;T0>1p1@9999", 3);
        CHECK.until(x, 9999);
        CHECK.refused(x, "T0>1p1@9998", 0, 4, 9998);
        CHECK.text(x, "T0>1p1@9999", 1);
    }

    private static void noHours() {
        CHECK.sentence("hours 0");
        LineDispatcher x = CHECK.line("L5");
        CHECK.refused(x, "T0>1p1@0h0", 0, 4, 0);
        CHECK.refused(x, "T0>1p1@0+9h0", 0, 4, 0);
        CHECK.text(x, "T0>1p1@0h1;T0>1p1@0+9h9999", 2);
    }

    private static void theNumbersTold() {
        CHECK.sentence("the stations the second one, for the ready minute that, for the slow order the end");
        LineDispatcher x = CHECK.line("L5");
        CHECK.until(x, 7);
        CHECK.refused(x, "T1>1p9@8+7h6", 0, 4, 1);
        CHECK.refused(x, "T0>1p9@5+8h7", 0, 4, 5);
        CHECK.refused(x, "T0>1p9@8+7h0", 0, 4, 0);
        CHECK.refused(x, "O0+9@8-6", 0, 4, 6);
        CHECK.text(x, "T0>1p9@8+7h1", 1);
    }

    private static void endsOfSlowOrders() {
        CHECK.sentence("a slow order whose end is not greater than its beginning");
        LineDispatcher x = CHECK.line("L5");
        CHECK.refused(x, "O0+1@0-0", 0, 4, 0);
        CHECK.refused(x, "O0+1@5-5", 0, 4, 5);
        CHECK.refused(x, "O0+1@5-4", 0, 4, 4);
        CHECK.refused(x, "O0+1@9999-9999", 0, 4, 9999);
        CHECK.text(x, "O0+1@0-1;O0+1@5-6;O0+1@9998-9999", 3);
        // An order may lie in the past.
        CHECK.until(x, 50);
        CHECK.text(x, "O0+1@5-6", 1);
    }

    private static void noWaitingBound() {
        CHECK.sentence("or a waiting bound of 0; the number told is that number");
        CHECK.refused(new LineDispatcher(), "W0", 0, 4, 0);
        CHECK.refused(CHECK.line("L5"), "W7;W0", 1, 4, 0);
        LineDispatcher x = new LineDispatcher();
        CHECK.text(x, "W1", 1);
        CHECK.due("count(6)", x.count(6), 1);
        CHECK.text(x, "W9999", 1);
        CHECK.due("count(6)", x.count(6), 9999);
    }

    /** A line with all its trains and slow orders, at minute 3. */
    private static LineDispatcher fullLine() {
        LineDispatcher x = nineTrains();
        CHECK.text(x, many(ORDER, 5), 5);
        CHECK.text(x, TRAIN + ";" + ORDER, 2);
        CHECK.until(x, 3);
        return x;
    }

    private static void placesFirst() {
        CHECK.sentence("The reasons are looked at in this order, first all stations and blocks of a command");
        LineDispatcher x = fullLine();
        CHECK.refused(x, "T2>0p1@0h0", 0, 2, 2);
        CHECK.refused(x, "T0>2p1@0h0", 0, 2, 2);
        CHECK.refused(x, "T7>7p1@0h0", 0, 2, 7);
        CHECK.refused(x, "O1+1@9-9", 0, 2, 1);
        CHECK.refused(x, "S2:0", 0, 2, 2);
    }

    private static void thenTheLimits() {
        CHECK.sentence("then the limits, then the numbers in the order of the text");
        LineDispatcher x = fullLine();
        CHECK.refused(x, "T0>0p1@9", 0, 3, 10);
        CHECK.refused(x, "T0>1p1@2", 0, 3, 10);
        CHECK.refused(x, "T0>1p1@9h0", 0, 3, 10);
        CHECK.refused(x, "O0+1@9-9", 0, 3, 6);
    }

    private static void thenTheNumbers() {
        CHECK.sentence("then the numbers in the order of the text");
        LineDispatcher x = CHECK.line("L5");
        CHECK.until(x, 3);
        CHECK.refused(x, "T1>1p1@2h0", 0, 4, 1);
        CHECK.refused(x, "T1>1p1@3h0", 0, 4, 1);
        CHECK.refused(x, "T0>1p1@2h0", 0, 4, 2);
        CHECK.refused(x, "T0>1p1@3h0", 0, 4, 0);
        CHECK.refused(x, "L5,100,0", 0, 4, 100);
        CHECK.refused(x, "L5,0,100", 0, 4, 0);
    }
}
