/** Promise 7: lift. */
public final class LiftTest {
    private static final Check CHECK = new Check();

    public static void main(String[] args) {
        noSuchOrder();
        lowerNumbers();
        aTrainOnItsWay();
        CHECK.end();
    }

    private static void noSuchOrder() {
        LineDispatcher x = CHECK.line("L5;O0+1@0-9;O0+2@0-9");
        int[] wrong = {-1, 2, 5, 6, Integer.MIN_VALUE, Integer.MAX_VALUE};
        for (int order : wrong) CHECK.due("lift(" + order + ")", x.lift(order), -1);
        CHECK.due("count(5)", x.count(5), 2);
    }

    private static void lowerNumbers() {
        LineDispatcher x = CHECK.line("L5,5;O0+1@0-9;O1+2@0-9;O0+4@0-9;O0+8@0-9");
        CHECK.text(x, "O0+16@0-9;O0+32@0-9", 2);
        CHECK.due("all", x.block(0, 2), 61);
        CHECK.due("lift(2)", x.lift(2), 5);
        CHECK.due("without 4", x.block(0, 2), 57);
        CHECK.due("lift(2)", x.lift(2), 4);
        CHECK.due("without 8", x.block(0, 2), 49);
        CHECK.due("lift(4)", x.lift(4), -1);
        CHECK.due("lift(3)", x.lift(3), 3);
        CHECK.due("without 32", x.block(0, 2), 17);
        CHECK.due("lift(0)", x.lift(0), 2);
        CHECK.due("without 1", x.block(0, 2), 16);
        CHECK.due("block 1 keeps its own", x.block(1, 2), 2);
        CHECK.due("lift(0)", x.lift(0), 1);
        CHECK.due("block 1 has none", x.block(1, 2), 0);
        CHECK.due("lift(0)", x.lift(0), 0);
        CHECK.due("lift(0)", x.lift(0), -1);
        CHECK.due("none", x.block(0, 2), 0);
    }

    private static void aTrainOnItsWay() {
        LineDispatcher x = CHECK.line("L5;T0>1p1@0;O0+7@0-9");
        CHECK.until(x, 1);
        CHECK.due("lift(0)", x.lift(0), 0);
        CHECK.due("train(0, 7)", x.train(0, 7), 13);
        CHECK.until(x, 12);
        CHECK.due("train(0, 0)", x.train(0, 0), 2);
        CHECK.until(x, 13);
        CHECK.due("train(0, 0)", x.train(0, 0), 4);
    }
}
