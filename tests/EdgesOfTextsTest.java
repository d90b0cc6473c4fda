/** The boundaries that the form of texts in the document's section "Commands" names, one by one. */
public final class EdgesOfTextsTest {
    private static final Check CHECK = new Check();

    /** Texts with a # for a number, for a station or block, and for a digit. */
    private static final String[] NUMBERS = {"L#", "L5,#", "L#,5", "T0>1p1@#", "T0>1p1@#+1", "T0>1p1@#h9", "T0>1p1@9h#",
        "O0+#@1-2", "O0+1@#-2", "O0+1@1-#", "W#", "W#;W1"};
    private static final String[] PLACES = {"S#:1", "T#>0p1@0", "T0>#p1@0", "O#+1@0-1"};
    private static final String[] DIGITS = {"S0:#", "S0:#r", "T0>1p#@0", "T0>1p1@0+#", "T0>1p1@0+#h9"};

    public static void main(String[] args) {
        aFullTape();
        fewestAndMostCommands();
        fewestAndMostLengths();
        aReliefStationOrNot();
        extraAndHoursOrNot();
        anOrderWithAllItsParts();
        noSpaces();
        stationsAndBlocks();
        digits();
        fewestAndMostDigits();
        leadingZeros();
        theFirstByte();
        eachByteOfAText();
        textsThatEndTooEarly();
        theEighthNumber();
        CHECK.end();
    }

    /** A text that is not wrong; whether a command in it is refused does not matter. */
    private static void right(String text) {
        LineDispatcher x = CHECK.line("L5,5,5,5,5,5,5");
        CHECK.feed(x, text);
        int answer = x.execute();
        boolean isWrong = answer <= -100 && answer > -200;
        CHECK.due("execute of '" + text + "', which is right,", answer, isWrong ? 0 : answer);
    }

    private static void wrong(String text, int position) {
        CHECK.wrong(CHECK.line("L5,5,5,5,5,5,5"), text, position);
    }

    private static void aFullTape() {
        CHECK.sentence("A text on the tape, which holds at most 60 bytes");
        LineDispatcher x = new LineDispatcher();
        CHECK.feed(x, "W1;W2;W3;W4;W5;W6;W7;W8;W9;W10;W20;W30;W40;W50;W60;W70;W8765");
        CHECK.due("count(7)", x.count(7), 60);
        CHECK.due("a byte more", x.feed(1, '4', 0, 0, 0, 0), -4);
        CHECK.due("execute()", x.execute(), 17);
        CHECK.due("the last command is whole", x.count(6), 8765);
    }

    private static void fewestAndMostCommands() {
        CHECK.sentence("text = command { \";\" command }");
        LineDispatcher x = new LineDispatcher();
        CHECK.wrong(x, "", 0);
        CHECK.text(x, "W1", 1);
        CHECK.text(x, "W1;W2", 2);
        StringBuilder most = new StringBuilder("W1");
        for (int i = 2; i <= 20; i++) most.append(";W").append(1 + i % 9);
        CHECK.text(x, most.toString(), 20);
        CHECK.due("count(6)", x.count(6), 3);
        CHECK.wrong(x, ";", 0);
        CHECK.wrong(x, "W1;", 3);
        CHECK.wrong(x, ";W1", 0);
        CHECK.wrong(x, "W1;;W1", 3);
        CHECK.wrong(x, "W1W1", 2);
    }

    private static void fewestAndMostLengths() {
        CHECK.sentence("command = \"L\" number { \",\" number }");
        LineDispatcher x = new LineDispatcher();
        CHECK.text(x, "L7", 1);
        CHECK.text(x, "L7,7", 1);
        CHECK.text(x, "L7,7,7,7,7,7,7", 1);
        CHECK.wrong(x, "L", 1);
        CHECK.wrong(x, "L,7", 1);
        CHECK.wrong(x, "L7,", 3);
        CHECK.wrong(x, "L7,,7", 3);
        CHECK.wrong(x, "L7,;W1", 3);
    }

    private static void aReliefStationOrNot() {
        CHECK.sentence("\"S\" station \":\" digit [ \"r\" ]");
        LineDispatcher x = CHECK.line("L5");
        CHECK.text(x, "S0:1", 1);
        CHECK.text(x, "S0:1r", 1);
        CHECK.wrong(x, "S0:1rr", 5);
        CHECK.wrong(x, "S0:r", 3);
        CHECK.wrong(x, "S0:1R", 4);
        CHECK.wrong(x, "S0", 2);
        CHECK.wrong(x, "S0r", 2);
    }

    private static void extraAndHoursOrNot() {
        CHECK.sentence("\"T\" station \">\" station \"p\" digit \"@\" number [ \"+\" digit ] [ \"h\" number ]");
        LineDispatcher x = CHECK.line("L5");
        String[] right = {"T0>1p1@0", "T0>1p1@0+1", "T0>1p1@0h1", "T0>1p1@0+1h1"};
        for (String text : right) CHECK.text(x, text, 1);
        CHECK.wrong(x, "T0>1p1@0+", 9);
        CHECK.wrong(x, "T0>1p1@0h", 9);
        CHECK.wrong(x, "T0>1p1@0+h1", 9);
        CHECK.wrong(x, "T0>1p1@0h1+1", 10);
        CHECK.wrong(x, "T0>1p1@0+1+1", 10);
        CHECK.wrong(x, "T0>1p1@0h1h1", 10);
        CHECK.wrong(x, "T0>1@0", 4);
    }

    private static void anOrderWithAllItsParts() {
        CHECK.sentence("\"O\" block \"+\" number \"@\" number \"-\" number");
        LineDispatcher x = CHECK.line("L5");
        CHECK.text(x, "O0+0@0-1", 1);
        CHECK.wrong(x, "O0", 2);
        CHECK.wrong(x, "O0+0", 4);
        CHECK.wrong(x, "O0+0@0", 6);
        CHECK.wrong(x, "O0@0-1", 2);
        CHECK.wrong(x, "O0+0-1", 4);
        CHECK.wrong(x, "O0+0@0-1-2", 8);
    }

    private static void noSpaces() {
        CHECK.sentence("has the following form, without spaces");
        String text = "L5;S0:1r;T0>1p1@0+1h1;O0+0@0-1;W1";
        CHECK.text(new LineDispatcher(), text, 5);
        for (int at = 0; at <= text.length(); at++) {
            CHECK.wrong(new LineDispatcher(), text.substring(0, at) + " " + text.substring(at), at);
        }
    }

    private static void stationsAndBlocks() {
        CHECK.sentence("A station or block is a digit 0 to 7");
        for (String form : PLACES) {
            int at = form.indexOf('#');
            for (char place = '0'; place <= '7'; place++) right(form.replace('#', place));
            for (char other : new char[] {'/', '8', '9', ':', 'a', ' '}) wrong(form.replace('#', other), at);
            wrong(form.replace("#", ""), at);
            wrong(form.replace("#", "00"), at + 1);
            wrong(form.replace("#", "-1"), at);
        }
    }

    private static void digits() {
        CHECK.sentence("[ \"+\" digit ]");
        for (String form : DIGITS) {
            int at = form.indexOf('#');
            for (char digit = '0'; digit <= '9'; digit++) right(form.replace('#', digit));
            for (char other : new char[] {'/', ':', ';', 'a', ' '}) wrong(form.replace('#', other), at);
            wrong(form.replace("#", ""), at);
            wrong(form.replace("#", "10"), at + 1);
            wrong(form.replace("#", "00"), at + 1);
        }
    }

    private static void fewestAndMostDigits() {
        CHECK.sentence("a number has 1 to 4 digits");
        for (String form : NUMBERS) {
            int at = form.indexOf('#');
            for (String number : new String[] {"1", "12", "123", "1234", "9999"}) right(form.replace("#", number));
            wrong(form.replace("#", ""), at);
            for (char other : new char[] {'/', ':', 'a', ' '}) {
                wrong(form.replace('#', other), at);
                wrong(form.replace("#", "1" + other), at + 1);
                wrong(form.replace("#", "123" + other), at + 3);
            }
            wrong(form.replace("#", "12345"), at + 4);
            wrong(form.replace("#", "10000"), at + 4);
        }
    }

    private static void leadingZeros() {
        CHECK.sentence("without leading zeros unless it is 0");
        for (String form : NUMBERS) {
            int at = form.indexOf('#');
            right(form.replace("#", "0"));
            right(form.replace("#", "10"));
            for (String number : new String[] {"00", "01", "0000", "0123"}) wrong(form.replace("#", number), at + 1);
        }
    }

    private static void theFirstByte() {
        CHECK.sentence("The error position of a text is the index of its first byte with which no text can continue");
        for (char first = 0; first <= 127; first++) {
            CHECK.wrong(new LineDispatcher(), "" + first, "LSTOW".indexOf(first) >= 0 ? 1 : 0);
        }
    }

    private static void eachByteOfAText() {
        CHECK.sentence("the index of its first byte with which no text can continue");
        String text = "L10,5;S1:3r;T0>2p9@0+5h9;O1+7@2-9;W33";
        for (int at = 0; at < text.length(); at++) {
            CHECK.wrong(new LineDispatcher(), text.substring(0, at) + "!" + text.substring(at + 1), at);
            CHECK.wrong(new LineDispatcher(), text.substring(0, at) + "!!", at);
        }
        CHECK.wrong(new LineDispatcher(), text + "!", text.length());
    }

    private static void textsThatEndTooEarly() {
        CHECK.sentence("or its length if it ends too early");
        String text = "L10,5;S1:3r;T0>2p9@0+5h9;O1+7@2-9;W33";
        // Behind these bytes the text may end, with so many commands.
        int[] ends = {2, 3, 5, 10, 11, 20, 22, 24, 33, 36, 37};
        int[] commands = {1, 1, 1, 2, 2, 3, 3, 3, 4, 5, 5};
        int next = 0;
        for (int length = 0; length <= text.length(); length++) {
            if (length == ends[next]) CHECK.text(new LineDispatcher(), text.substring(0, length), commands[next++]);
            else CHECK.wrong(new LineDispatcher(), text.substring(0, length), length);
        }
        CHECK.wrong(new LineDispatcher(), "W1;W2;W3;W4;W5;W6;W7;W8;W9;W10;W20;W30;W40;W50;W60;W70;W876;", 60);
    }

    private static void theEighthNumber() {
        CHECK.sentence("an eighth number of L is wrong at the comma ahead of it");
        LineDispatcher x = new LineDispatcher();
        CHECK.wrong(x, "L1,2,3,4,5,6,7,8", 14);
        CHECK.wrong(x, "L1,2,3,4,5,6,7,", 14);
        CHECK.wrong(x, "L1,2,3,4,5,6,7,8,9", 14);
        CHECK.wrong(x, "L11,22,33,44,55,66,77,88", 21);
        CHECK.wrong(x, "L1111,2222,3333,4444,5555,6666,7777,8888", 35);
        CHECK.wrong(x, "L5;L1,2,3,4,5,6,7,8", 17);
        CHECK.text(x, "L1,2,3,4,5,6,7;L7,6,5,4,3,2,1", 2);
    }
}
