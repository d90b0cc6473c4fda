/** Promise 18: held. */
public final class HeldTest {
    private static final Check CHECK = new Check();

    public static void main(String[] args) {
        errors();
        upAndDown();
        onItsWay();
        whatAPlanSaysIsNotHeld();
        CHECK.end();
    }

    private static void errors() {
        LineDispatcher x = CHECK.line("L5,5");
        CHECK.until(x, 4);
        int[] blocks = {-1, 2, 7, Integer.MIN_VALUE, Integer.MAX_VALUE};
        for (int block : blocks) {
            CHECK.due("held(" + block + ", 0)", x.held(block, 0), -1);
            CHECK.due("held(" + block + ", -1)", x.held(block, -1), -1);
        }
        int[] minutes = {-1, 5, Integer.MIN_VALUE, Integer.MAX_VALUE};
        for (int minute : minutes) CHECK.due("held(0, " + minute + ")", x.held(0, minute), -2);
        CHECK.due("held(0, 0)", x.held(0, 0), -5);
        CHECK.due("held(1, 4)", x.held(1, 4), -5);
    }

    private static void held(LineDispatcher x, int block, String due) {
        for (int minute = 0; minute < due.length(); minute++) {
            int train = due.charAt(minute) == '-' ? -5 : due.charAt(minute) - '0';
            CHECK.due("at " + x.count(0) + " held(" + block + ", " + minute + ")", x.held(block, minute), train);
        }
    }

    private static void upAndDown() {
        LineDispatcher x = CHECK.line("L3,4;T0>2p1@0;T2>0p2@2;T0>1p1@0");
        CHECK.until(x, 20);
        // Train 1 holds block 1 from 2 to 6, train 0 block 0 from 1 to 4 and block 1 from 6 to 10.
        held(x, 1, "--11110000----");
        held(x, 0, "-000222111----");
    }

    private static void onItsWay() {
        LineDispatcher x = CHECK.line("L9;T1>0p1@2");
        CHECK.until(x, 2);
        held(x, 0, "--0");
        CHECK.until(x, 10);
        held(x, 0, "--000000000");
        CHECK.until(x, 11);
        held(x, 0, "--000000000-");
    }

    private static void whatAPlanSaysIsNotHeld() {
        LineDispatcher x = CHECK.line("L9;T1>0p1@2;T0>1p1@5");
        CHECK.due("plan(100)", x.plan(100), 6);
        CHECK.due("cancel(0)", x.cancel(0), 1);
        CHECK.until(x, 16);
        held(x, 0, "-----111111111---");
    }
}
