/** Promise 2: feed. */
public final class FeedTest {
    private static final Check CHECK = new Check();

    public static void main(String[] args) {
        numbersOutOfRange();
        bytesOutOfRange();
        bytesComeInTheirOrder();
        fullTape();
        badComesBeforeFull();
        CHECK.end();
    }

    private static void numbersOutOfRange() {
        LineDispatcher x = new LineDispatcher();
        int[] numbers = {0, 6, -1, Integer.MIN_VALUE, Integer.MAX_VALUE};
        for (int n : numbers) CHECK.due("feed(" + n + ")", x.feed(n, 76, 49, 0, 0, 0), -2);
        CHECK.due("count(7)", x.count(7), 0);
        CHECK.due("feed(1)", x.feed(1, 76, 0, 0, 0, 0), 1);
        CHECK.due("feed(5)", x.feed(5, 49, 49, 44, 49, 49), 6);
    }

    private static void bytesOutOfRange() {
        LineDispatcher x = new LineDispatcher();
        for (int at = 0; at < 5; at++) {
            int[] wrong = {-1, 128, Integer.MIN_VALUE, Integer.MAX_VALUE};
            for (int sign : wrong) {
                int[] b = {1, 1, 1, 1, 1};
                b[at] = sign;
                CHECK.due("feed(1) with " + sign + " at " + at, x.feed(1, b[0], b[1], b[2], b[3], b[4]), -2);
            }
        }
        CHECK.due("count(7)", x.count(7), 0);
        CHECK.due("feed of 0 and 127", x.feed(2, 0, 127, 127, 0, 127), 2);
        CHECK.due("execute()", x.execute(), -100);
        CHECK.due("refusal(2)", x.refusal(2), 0);
    }

    private static void bytesComeInTheirOrder() {
        for (int n = 1; n <= 5; n++) {
            LineDispatcher x = new LineDispatcher();
            CHECK.due("feed(" + n + ")", x.feed(n, 'W', '1', '2', '3', '4'), n);
            CHECK.due("execute of " + n, x.execute(), n == 1 ? -101 : 1);
            int[] due = {60, 1, 12, 123, 1234};
            CHECK.due("bound of " + n, x.count(6), due[n - 1]);
        }
    }

    private static void fullTape() {
        LineDispatcher x = new LineDispatcher();
        for (int i = 1; i <= 11; i++) CHECK.due("feed " + i, x.feed(5, 49, 49, 49, 49, 49), 5 * i);
        CHECK.due("feed to 58", x.feed(3, 49, 49, 49, 49, 49), 58);
        CHECK.due("feed of 3 more", x.feed(3, 50, 50, 50, 50, 50), -4);
        CHECK.due("none is appended", x.count(7), 58);
        CHECK.due("feed of 2 more", x.feed(2, 49, 49, 49, 49, 49), 60);
        CHECK.due("feed of 1 more", x.feed(1, 49, 49, 49, 49, 49), -4);
        CHECK.due("count(7)", x.count(7), 60);
        CHECK.due("execute()", x.execute(), -100);
        CHECK.due("feed after that", x.feed(1, 49, 49, 49, 49, 49), 1);
    }

    private static void badComesBeforeFull() {
        LineDispatcher x = new LineDispatcher();
        for (int i = 1; i <= 12; i++) CHECK.due("feed " + i, x.feed(5, 49, 49, 49, 49, 49), 5 * i);
        CHECK.due("feed(1)", x.feed(1, 49, 49, 49, 49, 128), -2);
        CHECK.due("feed(6)", x.feed(6, 49, 49, 49, 49, 49), -2);
        CHECK.due("feed(5)", x.feed(5, 49, 49, 49, 49, 49), -4);
    }
}
