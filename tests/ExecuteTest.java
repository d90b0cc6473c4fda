/** Promise 3: execute, with the section Commands. */
public final class ExecuteTest {
    private static final Check CHECK = new Check();

    public static void main(String[] args) {
        rightTexts();
        wrongTexts();
        wrongNumbers();
        manyCommands();
        theTapeIsEmptyAfterwards();
        noLine();
        noStationOrBlock();
        limitOfTrains();
        limitOfOrders();
        lengthsOutOfRange();
        tracksThatCannotBe();
        trainsThatCannotBe();
        ordersThatCannotBe();
        orderOfTheReasons();
        allOrNone();
        aNewLine();
        newTrainsBeginAnew();
        tenTrains();
        effects();
        CHECK.end();
    }

    private static void rightTexts() {
        LineDispatcher x = CHECK.line("L1");
        String[] texts = {"L1,2,3,4,5,6,7", "S7:4r", "S0:1", "T0>7p0@0", "T7>0p9@9999+9h9999", "T0>1p1@5+0", "T0>1p1@5h1",
            "O6+0@0-1", "O0+9999@9998-9999", "W1", "W9999", "L99", "L1,99"};
        for (String text : texts) CHECK.text(x, text, 1);
        CHECK.text(x, "L5;W7;S0:3;T0>1p1@0;O0+1@2-3", 5);
    }

    private static void wrongTexts() {
        LineDispatcher x = CHECK.line("L5,5");
        CHECK.wrong(x, "", 0);
        String[] beginnings = {"X", "l1", ";", "1", "W1;;", "W1;X", "W1 ", "W1W1", "L1 ", "S0:1;S0:1;s"};
        int[] at = {0, 0, 0, 0, 3, 3, 2, 2, 2, 10};
        for (int i = 0; i < at.length; i++) CHECK.wrong(x, beginnings[i], at[i]);
        String[] tooShort = {"L", "L1,", "L1;", "S", "S0", "S0:", "S0:1;", "T", "T0", "T0>", "T0>1", "T0>1p", "T0>1p1", "T0>1p1@",
            "T0>1p1@0+", "T0>1p1@0h", "T0>1p1@0+1h", "O", "O0", "O0+", "O0+1", "O0+1@", "O0+1@1", "O0+1@1-", "W", "W1;"};
        for (String text : tooShort) CHECK.wrong(x, text, text.length());
        String[] inside = {"S8:1", "S0;1", "S0:r", "S0:12", "S0:1rr", "S0:1R", "S00:1", "T8>0p1@0", "T0>8p1@0", "T0<1p1@0", "T0>1@0",
            "T0>1p@0", "T0>1p11@0", "T0>1p1@0+12", "T0>1p1@0+1+1", "T0>1p1@0h5+1", "T0>1p1@0h5h5", "T0>1p1@0r", "O8+1@0-1",
            "O0-1@0-1", "O0+1-0@1", "O0+1@0+1", "O0+1@0-1-1", "L1,,2", "L,1", "L-1", "W-1", "W1,2"};
        int[] inAt = {1, 2, 3, 4, 5, 4, 2, 1, 3, 2, 4, 5, 6, 10, 10, 10, 10, 8, 1, 2, 4, 6, 8, 3, 1, 1, 1, 2};
        for (int i = 0; i < inAt.length; i++) CHECK.wrong(x, inside[i], inAt[i]);
        CHECK.due("nothing was carried out", x.count(2) + x.count(5), 0);
    }

    private static void wrongNumbers() {
        LineDispatcher x = CHECK.line("L5,5");
        String[] texts = {"W00", "W01", "W12345", "L0123", "L1,00", "L10000", "T0>1p1@00", "T0>1p1@12345", "T0>1p1@0h00",
            "O0+00@1-2", "O0+1@01-2", "O0+1@1-02", "O0+12345@1-2"};
        int[] at = {2, 2, 5, 2, 4, 5, 8, 11, 10, 4, 6, 8, 7};
        for (int i = 0; i < at.length; i++) CHECK.wrong(x, texts[i], at[i]);
        CHECK.wrong(x, "L1,2,3,4,5,6,7,8", 14);
        CHECK.wrong(x, "L1,2,3,4,5,6,7,", 14);
        CHECK.wrong(x, "W5;L10,20,30,40,50,60,70,80", 24);
    }

    private static void manyCommands() {
        LineDispatcher x = new LineDispatcher();
        StringBuilder most = new StringBuilder("W1");
        for (int i = 2; i <= 20; i++) most.append(";W").append(i % 9 + 1);
        CHECK.text(x, most.toString(), 20);
        CHECK.due("the last one counts", x.count(6), 3);
        CHECK.wrong(x, most + ";", 60);
        CHECK.text(x, "W0;" + most.substring(3), -200);
        CHECK.refused(x, most.substring(0, 57) + "W0", 19, 4, 0);
        CHECK.text(x, "L1;W10;W10;W10;W10;W10;W10;W10;W10;W10;W10;W10;W10;W10;W1234", 15);
        CHECK.due("a text of 60 bytes", x.count(6), 1234);
    }

    private static void theTapeIsEmptyAfterwards() {
        LineDispatcher x = new LineDispatcher();
        String[] texts = {"W5", "W", "W0"};
        int[] due = {1, -101, -200};
        for (int i = 0; i < due.length; i++) {
            CHECK.text(x, texts[i], due[i]);
            CHECK.due("count(7) after " + texts[i], x.count(7), 0);
            CHECK.due("execute() of nothing", x.execute(), -100);
        }
    }

    private static void noLine() {
        LineDispatcher x = new LineDispatcher();
        CHECK.refused(x, "S0:9", 0, 1, -5);
        CHECK.refused(x, "T0>0p1@0h0", 0, 1, -5);
        CHECK.refused(x, "O0+1@5-1", 0, 1, -5);
        CHECK.refused(x, "W5;O7+1@5-6;L5", 1, 1, -5);
        CHECK.due("the bound stays", x.count(6), 60);
        CHECK.text(x, "W5;L5;S1:3", 3);
    }

    private static void noStationOrBlock() {
        LineDispatcher x = CHECK.line("L5,5");
        CHECK.refused(x, "S3:1", 0, 2, 3);
        CHECK.refused(x, "S7:9r", 0, 2, 7);
        CHECK.refused(x, "T3>4p1@0", 0, 2, 3);
        CHECK.refused(x, "T2>4p1@0", 0, 2, 4);
        CHECK.refused(x, "T7>7p1@0", 0, 2, 7);
        CHECK.refused(x, "O2+1@0-1", 0, 2, 2);
        CHECK.refused(x, "O7+1@0-1", 0, 2, 7);
        CHECK.text(x, "O1+1@0-1;T2>0p1@0;S2:1", 3);
        CHECK.refused(x, "L5;T0>2p1@0", 1, 2, 2);
        CHECK.text(x, "L5,5,5;T0>3p1@0", 2);
    }

    private static void limitOfTrains() {
        LineDispatcher x = CHECK.line("L5,5;S0:4;T0>2p1@0;T0>2p1@0;T0>2p1@0;T0>2p1@0");
        CHECK.text(x, "T0>2p1@99;T0>2p1@99;T0>2p1@99;T0>2p1@99;T0>2p1@99", 5);
        CHECK.refused(x, "T0>2p1@99;T0>2p1@99", 1, 3, 10);
        CHECK.due("none of them came", x.count(2), 9);
        CHECK.text(x, "T0>2p1@99", 1);
        CHECK.refused(x, "T0>2p1@99", 0, 3, 10);
        CHECK.due("cancel(9)", x.cancel(9), 1);
        CHECK.until(x, 90);
        CHECK.due("four have ended", x.count(4), 4);
        CHECK.refused(x, "W7;T0>2p1@99", 1, 3, 10);
        CHECK.text(x, "L5;T0>1p1@99", 2);
        CHECK.due("count(2)", x.count(2), 1);
    }

    private static void limitOfOrders() {
        LineDispatcher x = CHECK.line("L5;O0+1@1-2;O0+1@1-2;O0+1@1-2");
        CHECK.refused(x, "O0+1@1-2;O0+1@1-2;O0+1@1-2;O0+1@1-2", 3, 3, 6);
        CHECK.due("count(5)", x.count(5), 3);
        CHECK.text(x, "O0+1@1-2;O0+1@1-2;O0+1@1-2", 3);
        CHECK.until(x, 10);
        CHECK.refused(x, "O0+1@20-30", 0, 3, 6);
        CHECK.due("lift(0)", x.lift(0), 5);
        CHECK.text(x, "O0+1@20-30", 1);
        CHECK.text(x, "L5;O0+1@20-30", 2);
        CHECK.due("count(5)", x.count(5), 1);
    }

    private static void lengthsOutOfRange() {
        LineDispatcher x = new LineDispatcher();
        CHECK.refused(x, "L0", 0, 4, 0);
        CHECK.refused(x, "L100", 0, 4, 100);
        CHECK.refused(x, "L5,99,9999,0", 0, 4, 9999);
        CHECK.refused(x, "L1,2,3,4,5,6,0", 0, 4, 0);
        CHECK.due("count(1)", x.count(1), 0);
        CHECK.text(x, "L1,99", 1);
    }

    private static void tracksThatCannotBe() {
        LineDispatcher x = CHECK.line("L5,5;T0>2p1@0;T0>2p2@0;T2>1p1@0;W9");
        CHECK.refused(x, "S0:0", 0, 4, 0);
        CHECK.refused(x, "S0:5", 0, 4, 5);
        CHECK.refused(x, "S0:9r", 0, 4, 9);
        // Now train 1 runs to station 1 and does not end there, train 2 runs there and ends there, train 0 is in station 0.
        CHECK.until(x, 1);
        CHECK.text(x, "S1:1;S0:1;S2:1", 3);
        CHECK.text(x, "S1:4;S0:4;S2:4", 3);
        CHECK.text(x, "T0>2p3@1;T0>2p4@1;T1>0p1@1h1;T1>0p1@1h1", 4);
        CHECK.until(x, 2);
        // In station 0 are 0, 3 and 4; in station 1 are 5 and 6, whose crews have too few hours, and train 1 comes.
        CHECK.due("station(0, 1)", x.station(0, 1), 3);
        CHECK.due("station(1, 1)", x.station(1, 1), 3);
        CHECK.refused(x, "S0:2", 0, 4, 2);
        CHECK.refused(x, "S1:2", 0, 4, 2);
        CHECK.text(x, "S0:3;S1:3", 2);
    }

    private static void trainsThatCannotBe() {
        LineDispatcher x = CHECK.line("L5,5");
        CHECK.until(x, 7);
        CHECK.refused(x, "T1>1p1@7", 0, 4, 1);
        CHECK.refused(x, "T0>1p1@6", 0, 4, 6);
        CHECK.refused(x, "T0>1p1@0", 0, 4, 0);
        CHECK.refused(x, "T0>1p1@7h0", 0, 4, 0);
        CHECK.refused(x, "T0>1p1@8+5h0", 0, 4, 0);
        CHECK.refused(x, "T2>2p1@6h0", 0, 4, 2);
        CHECK.refused(x, "T2>1p1@6h0", 0, 4, 6);
        CHECK.text(x, "T0>1p1@7h1", 1);
    }

    private static void ordersThatCannotBe() {
        LineDispatcher x = CHECK.line("L5,5");
        CHECK.until(x, 7);
        CHECK.refused(x, "O0+1@9-9", 0, 4, 9);
        CHECK.refused(x, "O0+1@9-8", 0, 4, 8);
        CHECK.refused(x, "O0+1@0-0", 0, 4, 0);
        CHECK.text(x, "O0+1@0-1;O0+0@9-10", 2);
        CHECK.refused(x, "W0", 0, 4, 0);
        CHECK.due("count(6)", x.count(6), 60);
    }

    private static void orderOfTheReasons() {
        LineDispatcher x = CHECK.line("L5,5;O0+1@1-2;O0+1@1-2;O0+1@1-2;O0+1@1-2;O0+1@1-2");
        CHECK.text(x, "O0+1@1-2;T0>1p1@1;T0>1p1@1;T0>1p1@1;T0>1p1@1;T0>1p1@1", 6);
        CHECK.text(x, "T0>1p1@1;T0>1p1@1;T0>1p1@1;T0>1p1@1;T0>1p1@1", 5);
        CHECK.until(x, 3);
        CHECK.refused(x, "O3+1@9-9", 0, 2, 3);
        CHECK.refused(x, "O1+1@9-9", 0, 3, 6);
        CHECK.refused(x, "T5>6p1@0h0", 0, 2, 5);
        CHECK.refused(x, "T0>5p1@0h0", 0, 2, 5);
        CHECK.refused(x, "T0>0p1@0h0", 0, 3, 10);
        CHECK.refused(x, "S5:0", 0, 2, 5);
    }

    private static void allOrNone() {
        LineDispatcher x = CHECK.line("L5,5;T0>2p1@0;O0+3@0-50;S1:3r");
        CHECK.until(x, 3);
        CHECK.due("plan(20)", x.plan(20), 3);
        String before = Check.all(x);
        CHECK.refused(x, "L9,9,9;W3;S0:1r;T0>1p1@5;O0+1@5-6;T0>1p1@2", 5, 4, 2);
        CHECK.same("after a refused text", Check.all(x), before);
        CHECK.text(x, "L9,9,9;W3;S0:1r;T0>1p1@5;O0+1@5-6;T0>1p1@x", -141);
        CHECK.same("after a wrong text", Check.all(x), before);
        CHECK.until(x, 50);
        CHECK.due("no drift", x.drift(), 0);
    }

    private static void aNewLine() {
        LineDispatcher x = CHECK.line("L5,5;S1:4r;T0>2p1@0;O0+3@0-50;W7");
        CHECK.due("relief(3)", x.relief(3), 10);
        CHECK.until(x, 10);
        CHECK.due("plan(20)", x.plan(20), 1);
        CHECK.text(x, "L8,9,10", 1);
        int[] due = {10, 4, 0, 0, 0, 0, 7, 0, 3, 0};
        for (int what = 0; what < due.length; what++) CHECK.due("count(" + what + ")", x.count(what), due[what]);
        for (int station = 0; station < 4; station++) {
            int[] properties = {2, 0, 0, 0, 0};
            for (int what = 0; what < 5; what++) CHECK.due("station(" + station + ", " + what + ")", x.station(station, what), properties[what]);
        }
        for (int block = 0; block < 3; block++) {
            int[] properties = {8 + block, -5, 0, 0, 0};
            for (int what = 0; what < 5; what++) CHECK.due("block(" + block + ", " + what + ")", x.block(block, what), properties[what]);
        }
        CHECK.due("drift()", x.drift(), -5);
        CHECK.due("held(0, 5)", x.held(0, 5), -5);
        CHECK.due("train(0, 0)", x.train(0, 0), -1);
        CHECK.text(x, "L4", 1);
        CHECK.due("a shorter line", x.station(2, 0), -1);
        CHECK.due("a shorter line", x.block(1, 0), -1);
    }

    /** Trains of a new line have nothing from those that had their numbers before. */
    private static void newTrainsBeginAnew() {
        LineDispatcher x = CHECK.line("L5,5;S0:1;T0>2p1@0h9;T0>2p1@0h5;T2>0p2@0h4;T2>1p1@0");
        CHECK.until(x, 60);
        CHECK.due("it was outside", x.account(1, 0), 2);
        CHECK.due("it had reliefs", x.train(1, 9), 2);
        CHECK.due("a train waits", x.count(9), 59);
        CHECK.text(x, "L5,5", 1);
        CHECK.due("count(9)", x.count(9), 0);
        CHECK.due("ahead(9, 2)", x.ahead(9, 2), 0);
        CHECK.due("ahead(9, 3)", x.ahead(9, 3), 1);
        CHECK.text(x, "T0>2p1@90;T0>2p1@90;T2>0p1@90;T0>1p1@90", 4);
        for (int train = 0; train < 4; train++) {
            CHECK.due("reliefs of " + train, x.train(train, 9), 0);
            for (int what = 0; what < 5; what++) CHECK.due("account(" + train + ", " + what + ")", x.account(train, what), 0);
            for (int station = 0; station < 3; station++) {
                CHECK.due("an arrival of " + train, x.timetable(train, station, 0), -5);
                CHECK.due("a departure of " + train, x.timetable(train, station, 1), -5);
            }
        }
    }

    private static void tenTrains() {
        LineDispatcher x = CHECK.line("L5,5;S0:4;S1:4;S2:4;W5;T0>2p1@0;T0>2p2@0;T2>0p3@0h6");
        CHECK.text(x, "T2>0p4@0;T1>0p5@0;T1>2p6@0h6;T1>2p7@1", 4);
        CHECK.text(x, "T0>1p8@2;T1>2p9@3;T2>0p0@4", 3);
        CHECK.due("cancel(9)", x.cancel(9), 1);
        CHECK.due("plan(300)", x.plan(300), x.plan(300));
        for (int minute = 5; minute < 60; minute += 9) {
            CHECK.until(x, minute);
            CHECK.due("drift()", x.drift(), 0);
            CHECK.due("conflicts()", x.conflicts(), 0);
            int longest = 0;
            int waits = 0;
            for (int train = 0; train < 9; train++) {
                int place = x.train(train, 1);
                boolean isIn = x.train(train, 0) == 1 || x.train(train, 0) == 3;
                if (isIn) longest = Math.max(longest, minute - x.timetable(train, place, 0));
                waits += x.account(train, 3);
            }
            CHECK.due("count(9)", x.count(9), longest);
            CHECK.due("ahead(1, 2)", x.ahead(1, 2), waits + x.order(-1));
            int trains = 0;
            for (int station = 0; station < 3; station++) trains += Integer.bitCount(x.station(station, 3));
            for (int block = 0; block < 2; block++) trains += x.block(block, 1) >= 0 ? 1 : 0;
            CHECK.due("all nine are somewhere", trains + x.count(3) + x.count(4), 9);
        }
        CHECK.due("train(9, 0)", x.train(9, 0), 5);
        CHECK.due("train(10, 0)", x.train(10, 0), -1);
    }

    private static void effects() {
        LineDispatcher x = CHECK.line("L5,6;S1:3r;T2>0p4@9+3h77;T0>1p0@9999;W33;O1+7@0-9");
        int[] first = {0, -5, 4, 9, 3, 77, 9, -5, -5, 0};
        int[] second = {0, -5, 0, 9999, 0, 480, 9999, -5, -5, 0};
        for (int what = 0; what < 10; what++) {
            CHECK.due("train(0, " + what + ")", x.train(0, what), first[what]);
            CHECK.due("train(1, " + what + ")", x.train(1, what), second[what]);
        }
        CHECK.due("station(1, 0)", x.station(1, 0), 3);
        CHECK.due("station(1, 2)", x.station(1, 2), 1);
        CHECK.due("station(0, 2)", x.station(0, 2), 0);
        CHECK.text(x, "S1:4", 1);
        CHECK.due("no relief station any more", x.station(1, 2), 0);
        CHECK.due("station(1, 0)", x.station(1, 0), 4);
        CHECK.due("count(6)", x.count(6), 33);
        CHECK.due("block(1, 2)", x.block(1, 2), 7);
        CHECK.due("block(0, 2)", x.block(0, 2), 0);
    }
}
