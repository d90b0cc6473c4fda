/** Promise 20: account, with the section Accounts. */
public final class AccountTest {
    private static final Check CHECK = new Check();

    public static void main(String[] args) {
        wrongNumbers();
        eachState();
        fromTheReadyMinute();
        minutesOfTheWay();
        theyAddUp();
        CHECK.end();
    }

    private static void accounts(LineDispatcher x, int train, int... due) {
        for (int what = 0; what < due.length; what++) {
            CHECK.due("at " + x.count(0) + " account(" + train + ", " + what + ")", x.account(train, what), due[what]);
        }
    }

    private static void wrongNumbers() {
        LineDispatcher x = CHECK.line("L5;T0>1p1@9;T0>1p1@9");
        int[] trains = {-1, 2, 10, Integer.MIN_VALUE, Integer.MAX_VALUE};
        for (int train : trains) CHECK.due("account(" + train + ", 0)", x.account(train, 0), -1);
        int[] whats = {-1, 6, Integer.MIN_VALUE, Integer.MAX_VALUE};
        for (int what : whats) CHECK.due("account(0, " + what + ")", x.account(0, what), -1);
        CHECK.due("cancel(1)", x.cancel(1), 1);
        accounts(x, 1, -1, -1, -1, -1, -1, -1);
    }

    private static void eachState() {
        LineDispatcher x = CHECK.line("L5,7;S0:1;S1:2r;T0>1p1@0h14;T0>2p1@2h8;T1>0p1@0");
        CHECK.due("relief(3)", x.relief(3), 10);
        CHECK.until(x, 1);
        accounts(x, 0, 1, 0, 0, 0, 1, 5);
        accounts(x, 1, 0, 0, 0, 0, 0, 12);
        accounts(x, 2, 1, 0, 0, 0, 1, 5);
        CHECK.until(x, 6);
        // Train 1 came into station 0 at 2, and waits for train 0 until 6, then for train 2, which came at 1.
        accounts(x, 0, 1, 5, 0, 0, 6, 5);
        accounts(x, 1, 0, 0, 0, 4, 4, 12);
        accounts(x, 2, 1, 0, 0, 5, 6, 5);
        CHECK.until(x, 11);
        // Its crew has been there for 9 minutes, so its relief of 9 minutes begins: station 0 is no relief station.
        accounts(x, 1, 0, 0, 0, 9, 9, 12);
        CHECK.until(x, 15);
        accounts(x, 1, 0, 0, 4, 9, 13, 12);
        CHECK.until(x, 20);
        accounts(x, 1, 0, 0, 9, 9, 18, 12);
        CHECK.until(x, 25);
        accounts(x, 1, 0, 5, 9, 9, 23, 12);
        // Then another relief in station 1 from 25 to 28, and block 1 until 35.
        CHECK.until(x, 35);
        accounts(x, 1, 0, 12, 12, 9, 33, 12);
        CHECK.until(x, 400);
        accounts(x, 0, 1, 5, 0, 0, 6, 5);
        accounts(x, 1, 0, 12, 12, 9, 33, 12);
        accounts(x, 2, 1, 5, 0, 5, 11, 5);
    }

    private static void fromTheReadyMinute() {
        LineDispatcher x = CHECK.line("L5;S0:1;T0>1p1@0h1;T0>1p1@9");
        CHECK.until(x, 9);
        accounts(x, 0, 1, 0, 0, 8, 9, 5);
        accounts(x, 1, 0, 0, 0, 0, 0, 5);
        CHECK.until(x, 12);
        accounts(x, 1, 3, 0, 0, 0, 3, 5);
        CHECK.text(x, "T0>1p1@12", 1);
        CHECK.until(x, 14);
        accounts(x, 2, 2, 0, 0, 0, 2, 5);
        LineDispatcher y = CHECK.line("L5;T0>1p1@9");
        CHECK.until(y, 10);
        accounts(y, 0, 0, 1, 0, 0, 1, 5);
    }

    private static void minutesOfTheWay() {
        LineDispatcher x = CHECK.line("L1,10,20,40;T0>4p1@9;T4>1p1@9+3;T2>3p1@9+9;O2+7@0-99");
        CHECK.text(x, "T3>2p1@9", 1);
        int[] due = {71, 79, 29, 20};
        for (int train = 0; train < due.length; train++) CHECK.due("account(" + train + ", 5)", x.account(train, 5), due[train]);
        CHECK.until(x, 300);
        for (int train = 0; train < due.length; train++) CHECK.due("account(" + train + ", 5)", x.account(train, 5), due[train]);
        CHECK.due("the slow order was run, too", x.account(3, 1), 27);
    }

    private static void theyAddUp() {
        LineDispatcher x = CHECK.line("L6,9,4;S1:1r;W8;T0>3p2@0h15;T3>0p5@2+1h20;T0>2p7@4");
        for (int minute = 5; minute < 95; minute += 9) {
            CHECK.until(x, minute);
            for (int train = 0; train < 3; train++) {
                int end = x.train(train, 0) == 4 ? x.train(train, 6) : minute;
                CHECK.due("at " + minute + " account(" + train + ", 4)", x.account(train, 4), end - x.train(train, 3));
                int sum = 0;
                for (int what = 0; what < 4; what++) sum += x.account(train, what);
                CHECK.due("at " + minute + " the accounts of " + train, sum, x.account(train, 4));
            }
        }
    }
}
