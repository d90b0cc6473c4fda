/** Promise 6: cancel. */
public final class CancelTest {
    private static final Check CHECK = new Check();

    public static void main(String[] args) {
        noSuchTrain();
        removed();
        notOutside();
        readyAndOutside();
        CHECK.end();
    }

    private static void noSuchTrain() {
        LineDispatcher x = CHECK.line("L5;T0>1p1@9");
        int[] wrong = {-1, 1, 9, 10, Integer.MIN_VALUE, Integer.MAX_VALUE};
        for (int train : wrong) CHECK.due("cancel(" + train + ")", x.cancel(train), -1);
    }

    private static void removed() {
        LineDispatcher x = CHECK.line("L5;T0>1p3@9+2h50;T0>1p1@9");
        CHECK.until(x, 4);
        CHECK.due("cancel(0)", x.cancel(0), 1);
        int[] due = {5, -5, 3, 9, 2, 50, 4, -5, -5, 0};
        for (int what = 0; what < 10; what++) CHECK.due("train(0, " + what + ")", x.train(0, what), due[what]);
        CHECK.due("cancel(0) again", x.cancel(0), -1);
        CHECK.due("account(0, 0)", x.account(0, 0), -1);
        CHECK.due("why(0, 0)", x.why(0, 0), 0);
        CHECK.due("why(0, 1)", x.why(0, 1), -5);
        CHECK.due("count(2)", x.count(2), 2);
        CHECK.due("count(3)", x.count(3), 1);
        CHECK.text(x, "T0>1p1@20", 1);
        CHECK.due("its number stays used", x.train(2, 3), 20);
        CHECK.until(x, 100);
        CHECK.due("it does not come", x.train(0, 0), 5);
        CHECK.due("train(0, 6)", x.train(0, 6), 4);
        CHECK.due("timetable(0, 0, 0)", x.timetable(0, 0, 0), -5);
        CHECK.due("the others come", x.count(4), 2);
    }

    private static void notOutside() {
        LineDispatcher x = CHECK.line("L5,5;T0>2p1@0h9;T2>1p1@0;T2>0p1@0h4");
        CHECK.until(x, 1);
        CHECK.due("in a block", x.cancel(0), 0);
        CHECK.due("in a station", x.train(2, 0), 1);
        CHECK.due("in a station", x.cancel(2), 0);
        CHECK.until(x, 6);
        CHECK.due("in relief", x.train(0, 0), 3);
        CHECK.due("in relief", x.cancel(0), 0);
        CHECK.due("ended", x.cancel(1), 0);
        CHECK.due("nothing is removed", x.train(0, 0), 3);
    }

    private static void readyAndOutside() {
        LineDispatcher x = CHECK.line("L5;S0:1;T0>1p1@0h4;T0>1p1@0");
        CHECK.until(x, 8);
        CHECK.due("why(1, 0)", x.why(1, 0), 2);
        CHECK.due("cancel(1)", x.cancel(1), 1);
        CHECK.due("train(1, 6)", x.train(1, 6), 8);
    }
}
