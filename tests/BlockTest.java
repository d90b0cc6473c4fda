/** Promise 11: block. */
public final class BlockTest {
    private static final Check CHECK = new Check();

    public static void main(String[] args) {
        wrongNumbers();
        properties();
        slowMinutes();
        CHECK.end();
    }

    private static void due(LineDispatcher x, int block, int... due) {
        for (int what = 0; what < 5; what++) {
            CHECK.due("at " + x.count(0) + " block(" + block + ", " + what + ")", x.block(block, what), due[what]);
        }
    }

    private static void wrongNumbers() {
        LineDispatcher x = CHECK.line("L1,2,3,4,5,6,7");
        for (int block = 0; block < 7; block++) CHECK.due("block(" + block + ", 0)", x.block(block, 0), block + 1);
        int[] wrong = {-1, 7, 8, Integer.MIN_VALUE, Integer.MAX_VALUE};
        for (int block : wrong) CHECK.due("block(" + block + ", 0)", x.block(block, 0), -1);
        CHECK.text(x, "L99", 1);
        CHECK.due("block(0, 0)", x.block(0, 0), 99);
        CHECK.due("block(1, 0)", x.block(1, 0), -1);
        int[] whats = {-1, 5, Integer.MIN_VALUE, Integer.MAX_VALUE};
        for (int what : whats) CHECK.due("block(0, " + what + ")", x.block(0, what), -1);
    }

    private static void properties() {
        LineDispatcher x = CHECK.line("L5,9;T0>2p1@0;T2>0p9@0;T0>1p1@0+2");
        due(x, 0, 5, -5, 0, 0, 0);
        CHECK.until(x, 1);
        due(x, 0, 5, 0, 0, 0, 1);
        due(x, 1, 9, 1, 0, 0, 1);
        CHECK.until(x, 5);
        due(x, 0, 5, 0, 0, 4, 1);
        CHECK.until(x, 6);
        // Train 0 waits in station 1 for block 1; train 2 enters block 0 at once.
        due(x, 0, 5, 2, 0, 5, 2);
        CHECK.until(x, 13);
        due(x, 0, 5, 1, 0, 12, 3);
        due(x, 1, 9, 0, 0, 12, 2);
        CHECK.until(x, 30);
        due(x, 0, 5, -5, 0, 17, 3);
        due(x, 1, 9, -5, 0, 18, 2);
    }

    private static void slowMinutes() {
        LineDispatcher x = CHECK.line("L5,9;O0+3@2-4;O0+9999@3-5;O1+1@0-1");
        int[] due = {0, 0, 3, 10002, 9999, 0};
        for (int minute = 0; minute < due.length; minute++) {
            CHECK.due("at " + minute + " block(0, 2)", x.block(0, 2), due[minute]);
            CHECK.due("at " + minute + " block(1, 2)", x.block(1, 2), minute == 0 ? 1 : 0);
            CHECK.due("pass(1)", x.pass(1), minute + 1);
        }
        CHECK.due("count(5)", x.count(5), 3);
        LineDispatcher y = CHECK.line("L5;O0+9999@0-9;O0+9999@0-9;O0+9999@0-9");
        CHECK.text(y, "O0+9999@0-9;O0+9999@0-9;O0+9999@0-9;T0>1p1@0h9999", 4);
        CHECK.until(y, 1);
        CHECK.due("block(0, 2)", y.block(0, 2), 59994);
        CHECK.due("why(0, 0)", y.why(0, 0), 6);
        CHECK.due("why(0, 1)", y.why(0, 1), 50000);
    }
}
