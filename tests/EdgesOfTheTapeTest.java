/** The boundaries that the promises 2 to 4, feed, execute and refusal, name, one by one. */
public final class EdgesOfTheTapeTest {
    private static final Check CHECK = new Check();
    private static final int[] FAR = {Integer.MIN_VALUE, Integer.MAX_VALUE};

    public static void main(String[] args) {
        numbersOfBytes();
        bytes();
        bytesThatAreNotAppended();
        theNewLength();
        none();
        emptyAfterwards();
        theNumberOfCommands();
        theErrorPosition();
        theFirstRefusedCommand();
        noneIsCarriedOut();
        theIndexOrPosition();
        theReason();
        noCauseOfThisLevel();
        theByte();
        noRefusal();
        levels();
        CHECK.end();
    }

    private static void chain(LineDispatcher x, int... due) {
        for (int level = 0; level < due.length; level++) CHECK.due("refusal(" + level + ")", x.refusal(level), due[level]);
    }

    /** A tape that holds so many bytes. */
    private static LineDispatcher filled(int bytes) {
        LineDispatcher x = new LineDispatcher();
        for (int i = 0; i < bytes; i++) x.feed(1, 'W', 0, 0, 0, 0);
        CHECK.due("count(7)", x.count(7), bytes);
        return x;
    }

    private static void numbersOfBytes() {
        CHECK.sentence("the number of bytes, 1 to 5; a is the first one, b the second, and so on");
        int[] bounds = {60, 1, 12, 123, 1234};
        for (int n = 1; n <= 5; n++) {
            LineDispatcher x = new LineDispatcher();
            CHECK.due("feed(" + n + ")", x.feed(n, 'W', '1', '2', '3', '4'), n);
            CHECK.due("execute of " + n + " bytes", x.execute(), n == 1 ? -101 : 1);
            CHECK.due("the bound of " + n + " bytes", x.count(6), bounds[n - 1]);
        }
        for (int n : new int[] {0, 6, -1, FAR[0], FAR[1]}) {
            CHECK.due("feed(" + n + ")", new LineDispatcher().feed(n, 'W', '1', '2', '3', '4'), -2);
        }
    }

    private static void bytes() {
        CHECK.sentence("a byte, 0 to 127");
        for (int at = 0; at < 5; at++) {
            int[] signs = {-1, 0, 127, 128, FAR[0], FAR[1]};
            for (int i = 0; i < signs.length; i++) {
                LineDispatcher x = new LineDispatcher();
                int[] b = {7, 7, 7, 7, 7};
                b[at] = signs[i];
                boolean isRight = i == 1 || i == 2;
                CHECK.due("feed with " + signs[i] + " at " + at, x.feed(5, b[0], b[1], b[2], b[3], b[4]), isRight ? 5 : -2);
                CHECK.due("count(7)", x.count(7), isRight ? 5 : 0);
            }
        }
    }

    private static void bytesThatAreNotAppended() {
        CHECK.sentence("BAD if n or any of the bytes is out of range, also of those that are not appended");
        for (int n = 1; n <= 5; n++) {
            for (int at = n; at < 5; at++) {
                for (int sign : new int[] {-1, 128}) {
                    LineDispatcher x = new LineDispatcher();
                    int[] b = {7, 7, 7, 7, 7};
                    b[at] = sign;
                    CHECK.due("feed(" + n + ") with " + sign + " at " + at, x.feed(n, b[0], b[1], b[2], b[3], b[4]), -2);
                    CHECK.due("count(7)", x.count(7), 0);
                }
            }
        }
    }

    private static void theNewLength() {
        CHECK.sentence("Returns the new length of the tape");
        LineDispatcher x = new LineDispatcher();
        CHECK.due("feed(1) of an empty tape", x.feed(1, 'W', 0, 0, 0, 0), 1);
        CHECK.due("feed(5)", x.feed(5, 'W', 0, 0, 0, 0), 6);
        CHECK.due("execute()", x.execute(), -101);
        CHECK.due("feed(2) of an empty tape", x.feed(2, 'W', 0, 0, 0, 0), 2);
    }

    private static void none() {
        CHECK.sentence("FULL if the tape would be longer than 60 bytes, and then none is appended");
        for (int n = 1; n <= 5; n++) {
            for (int free = 0; free <= 5; free++) {
                LineDispatcher x = filled(60 - free);
                CHECK.due("feed(" + n + ") at " + (60 - free), x.feed(n, '1', '1', '1', '1', '1'), n > free ? -4 : 60 - free + n);
                CHECK.due("count(7)", x.count(7), n > free ? 60 - free : 60 - free + n);
            }
        }
    }

    private static void emptyAfterwards() {
        CHECK.sentence("Carries out the text on the tape, which is empty afterwards.");
        String[] texts = {"W5", "", "W", "W0", "W1;W2;W3;W4;W5;W6;W7;W8;W9;W10;W20;W30;W40;W50;W60;W70;W8765"};
        int[] due = {1, -100, -101, -200, 17};
        for (int i = 0; i < texts.length; i++) {
            LineDispatcher x = new LineDispatcher();
            CHECK.text(x, texts[i], due[i]);
            CHECK.due("count(7) behind '" + texts[i] + "'", x.count(7), 0);
            CHECK.due("an empty text behind '" + texts[i] + "'", x.execute(), -100);
            CHECK.text(x, "W7", 1);
        }
    }

    private static void theNumberOfCommands() {
        CHECK.sentence("Returns the number of commands");
        StringBuilder text = new StringBuilder("W1");
        for (int i = 1; i <= 20; i++) {
            CHECK.text(new LineDispatcher(), text.toString(), i);
            text.append(";W1");
        }
    }

    private static void theErrorPosition() {
        CHECK.sentence("-100 minus the error position if the text is wrong");
        StringBuilder text = new StringBuilder();
        for (int i = 0; i < 20; i++) {
            CHECK.text(new LineDispatcher(), text + "!", -100 - 3 * i);
            CHECK.text(new LineDispatcher(), text + "W1!", -102 - 3 * i);
            text.append("W1;");
        }
        CHECK.text(new LineDispatcher(), text.toString(), -160);
    }

    private static void theFirstRefusedCommand() {
        CHECK.sentence("-200 minus the index of the first command that is refused, from 0");
        StringBuilder text = new StringBuilder();
        for (int i = 0; i < 20; i++) {
            CHECK.text(new LineDispatcher(), text + "W0", -200 - i);
            if (i < 19) CHECK.text(new LineDispatcher(), text + "W0;W0", -200 - i);
            text.append("W1;");
        }
    }

    private static void noneIsCarriedOut() {
        CHECK.sentence("in which case none is carried out");
        LineDispatcher x = CHECK.line("L5,5;T0>2p1@0;O0+1@0-9;W7");
        CHECK.until(x, 2);
        String before = Check.all(x);
        CHECK.text(x, "W8;S0:4r;T0>1p1@9;O1+1@0-9;L9;W0", -205);
        CHECK.same("behind a refused text", Check.all(x), before);
        CHECK.text(x, "W0;W9", -200);
        CHECK.due("nor those behind it", x.count(6), 7);
        CHECK.text(x, "W9;W", -104);
        CHECK.due("nor those ahead of an error", x.count(6), 7);
    }

    private static void theIndexOrPosition() {
        CHECK.sentence("0 for the text: what was told as an index or position");
        LineDispatcher x = new LineDispatcher();
        CHECK.text(x, "W0", -200);
        chain(x, 0);
        CHECK.text(x, "W1;W0", -201);
        chain(x, 1);
        CHECK.text(x, "", -100);
        chain(x, 0);
        CHECK.text(x, "W1;W2;W3;W4;W5;W6;W7;W8;W9;W10;W20;W30;W40;W50;W60;W70;W876;", -160);
        chain(x, 60);
    }

    private static void theReason() {
        CHECK.sentence("1 for the cause: the reason, 1 to 4, or 0 for a wrong text");
        LineDispatcher x = new LineDispatcher();
        CHECK.text(x, "S0:1", -200);
        chain(x, 0, 1);
        CHECK.text(x, "L5;S2:1", -201);
        chain(x, 1, 2);
        CHECK.text(x, "L5;O0+1@0-1;O0+1@0-1;O0+1@0-1;O0+1@0-1", 5);
        CHECK.text(x, "O0+1@0-1;O0+1@0-1;O0+1@0-1", -202);
        chain(x, 2, 3);
        CHECK.text(x, "W0", -200);
        chain(x, 0, 4);
        CHECK.text(x, "W", -101);
        chain(x, 1, 0);
    }

    private static void noCauseOfThisLevel() {
        CHECK.sentence("or there is no cause of this level");
        for (String text : new String[] {"S0:1", "T0>1p1@0", "O0+1@0-1"}) {
            LineDispatcher x = new LineDispatcher();
            CHECK.text(x, text, -200);
            chain(x, 0, 1, -5);
        }
    }

    private static void theByte() {
        CHECK.sentence("or the byte at the error position, -1 at the end of the text");
        for (char sign : new char[] {0, '0', 'Q', 127}) {
            LineDispatcher x = new LineDispatcher();
            CHECK.text(x, "" + sign, -100);
            chain(x, 0, 0, sign);
            CHECK.text(x, "W" + (sign == '0' ? "00" : "1" + sign), -102);
            chain(x, 2, 0, sign);
        }
        LineDispatcher y = new LineDispatcher();
        // What an earlier text had left behind the end is not told.
        CHECK.text(y, "W1234", 1);
        CHECK.text(y, "W", -101);
        chain(y, 1, 0, -1);
        CHECK.text(y, "", -100);
        chain(y, 0, 0, -1);
        CHECK.text(y, "W1;W2;W3;W4;W5;W6;W7;W8;W9;W10;W20;W30;W40;W50;W60;W70;W876;", -160);
        chain(y, 60, 0, -1);
    }

    private static void noRefusal() {
        CHECK.sentence("-5 if the latest text was carried out, none was executed");
        LineDispatcher x = new LineDispatcher();
        chain(x, -5, -5, -5);
        CHECK.feed(x, "W0");
        chain(x, -5, -5, -5);
        CHECK.due("execute()", x.execute(), -200);
        chain(x, 0, 4, 0);
        CHECK.feed(x, "W1");
        chain(x, 0, 4, 0);
        CHECK.due("execute()", x.execute(), 1);
        chain(x, -5, -5, -5);
    }

    private static void levels() {
        CHECK.sentence("NONE if level is not 0 to 2");
        LineDispatcher x = new LineDispatcher();
        for (String text : new String[] {"W1", "W0", "W", "S0:1"}) {
            for (int level : new int[] {-1, 3, FAR[0], FAR[1]}) CHECK.due("refusal(" + level + ")", x.refusal(level), -1);
            CHECK.feed(x, text);
            x.execute();
        }
    }
}
