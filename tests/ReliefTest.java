/** Promise 5: relief, and what the section Minutes says of reliefs. */
public final class ReliefTest {
    private static final Check CHECK = new Check();

    public static void main(String[] args) {
        range();
        threeTimesAsLong();
        inAReliefStation();
        theParameterAtTheBeginning();
        noMinutes();
        severalReliefs();
        tooFewHoursForTheBlock();
        CHECK.end();
    }

    private static void range() {
        LineDispatcher x = new LineDispatcher();
        int[] wrong = {-1, 61, Integer.MIN_VALUE, Integer.MAX_VALUE};
        for (int minutes : wrong) CHECK.due("relief(" + minutes + ")", x.relief(minutes), -2);
        CHECK.due("count(8)", x.count(8), 10);
        CHECK.due("relief(0)", x.relief(0), 10);
        CHECK.due("relief(60)", x.relief(60), 0);
        CHECK.due("relief(61)", x.relief(61), -2);
        CHECK.due("relief(7)", x.relief(7), 60);
        CHECK.due("count(8)", x.count(8), 7);
        CHECK.text(x, "L5", 1);
        CHECK.due("a new line keeps it", x.count(8), 7);
    }

    /** A train that comes into station 1 at minute 6 with a crew that can go no further. */
    private static LineDispatcher tired(String station) {
        LineDispatcher x = CHECK.line("L5,5;" + station + ";T0>2p1@0h9");
        CHECK.until(x, 5);
        return x;
    }

    private static void rests(LineDispatcher x, int since, int until) {
        CHECK.due("train(0, 0)", x.train(0, 0), 3);
        CHECK.due("train(0, 1)", x.train(0, 1), 1);
        CHECK.due("train(0, 6)", x.train(0, 6), since);
        CHECK.due("train(0, 7)", x.train(0, 7), until);
        CHECK.due("train(0, 8)", x.train(0, 8), -5);
        CHECK.until(x, until - 1);
        CHECK.due("still in relief", x.train(0, 0), 3);
        CHECK.until(x, until);
        CHECK.due("it runs", x.train(0, 0), 2);
        CHECK.due("in block 1", x.train(0, 1), 1);
        CHECK.due("its crew", x.train(0, 8), until);
        CHECK.due("its reliefs", x.train(0, 9), 1);
    }

    private static void threeTimesAsLong() {
        LineDispatcher x = tired("S1:2");
        CHECK.until(x, 6);
        rests(x, 6, 36);
    }

    private static void inAReliefStation() {
        LineDispatcher x = tired("S1:2r");
        CHECK.until(x, 6);
        rests(x, 6, 16);
    }

    private static void theParameterAtTheBeginning() {
        LineDispatcher x = tired("S1:2r");
        CHECK.due("relief(20)", x.relief(20), 10);
        CHECK.until(x, 6);
        CHECK.due("relief(1)", x.relief(1), 20);
        CHECK.text(x, "S1:2", 1);
        rests(x, 6, 26);
    }

    private static void noMinutes() {
        String[] stations = {"S1:2r", "S1:2"};
        for (String station : stations) {
            LineDispatcher x = tired(station);
            CHECK.due("relief(0)", x.relief(0), 10);
            CHECK.until(x, 6);
            rests(x, 6, 7);
            CHECK.due("a minute in relief", x.account(0, 2), 1);
        }
    }

    private static void severalReliefs() {
        LineDispatcher x = CHECK.line("L5,5,5;S1:2r;T0>3p1@0h5");
        CHECK.due("relief(2)", x.relief(2), 10);
        // In station 0 from 1, in station 1 at 6, relief to 8, in station 2 at 13, relief to 19, at the end at 24.
        CHECK.until(x, 18);
        CHECK.due("train(0, 0)", x.train(0, 0), 3);
        CHECK.due("train(0, 9)", x.train(0, 9), 2);
        CHECK.until(x, 24);
        CHECK.due("train(0, 0)", x.train(0, 0), 4);
        CHECK.due("train(0, 9)", x.train(0, 9), 2);
        CHECK.due("account(0, 2)", x.account(0, 2), 8);
        CHECK.due("train(0, 6)", x.train(0, 6), 24);
    }

    private static void tooFewHoursForTheBlock() {
        LineDispatcher x = CHECK.line("L5,6;S1:2r;T0>2p1@0h5");
        CHECK.until(x, 100);
        CHECK.due("no relief helps", x.train(0, 0), 1);
        CHECK.due("train(0, 1)", x.train(0, 1), 1);
        CHECK.due("train(0, 9)", x.train(0, 9), 0);
        CHECK.text(x, "L5,5;T0>2p1@100h5;T1>0p2@100", 3);
        CHECK.due("relief(60)", x.relief(60), 10);
        CHECK.until(x, 101);
        CHECK.due("train 1 has the block", x.block(0, 1), 1);
        CHECK.until(x, 105);
        // The crew of train 0 is too long there for the block now, but no relief begins while the block is taken.
        CHECK.due("train(0, 0)", x.train(0, 0), 1);
        CHECK.until(x, 106);
        CHECK.due("train(0, 0)", x.train(0, 0), 3);
        CHECK.due("in its first station", x.train(0, 1), 0);
        CHECK.due("train(0, 7)", x.train(0, 7), 106 + 180);
    }
}
