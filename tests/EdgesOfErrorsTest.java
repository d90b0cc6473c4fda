/** The sentences of the document's section "Errors", one by one, for each call that they hold for. */
public final class EdgesOfErrorsTest {
    private static final Check CHECK = new Check();

    public static void main(String[] args) {
        errorsChangeNothing();
        exceptThatOfExecute();
        theFirstErrorOfTheTape();
        theFirstErrorWithoutALine();
        theFirstErrorOfPass();
        theFirstErrorsOfQuestions();
        noneOnlyWithoutAnError();
        questionsChangeNothing();
        CHECK.end();
    }

    /** A small line on which much has happened: a plan, a snapshot, a refusal, a slow order and bytes on the tape. */
    private static LineDispatcher busy() {
        LineDispatcher x = CHECK.line("L5;W7;T0>1p1@0;T0>1p1@2;T0>1p1@90;O0+1@9-20");
        CHECK.until(x, 3);
        CHECK.due("image()", x.image(), 3);
        CHECK.until(x, 4);
        CHECK.due("plan(30)", x.plan(30), 3);
        CHECK.due("cancel(2)", x.cancel(2), 1);
        CHECK.text(x, "W0", -200);
        CHECK.feed(x, "W5");
        return x;
    }

    /** All that there is to ask of the line, and the refusal and the tape. */
    private static String state(LineDispatcher x) {
        return Check.all(x) + " refusal " + x.refusal(0) + ' ' + x.refusal(1) + ' ' + x.refusal(2) + " tape " + x.count(7);
    }

    private static void errorsChangeNothing() {
        CHECK.sentence("A call that returns an error code leaves the state unchanged");
        LineDispatcher x = busy();
        String before = state(x);
        CHECK.due("feed(0)", x.feed(0, 49, 49, 49, 49, 49), -2);
        CHECK.due("feed(5)", x.feed(5, 49, 49, 49, 49, 128), -2);
        CHECK.due("refusal(3)", x.refusal(3), -1);
        CHECK.due("relief(61)", x.relief(61), -2);
        CHECK.due("cancel(0)", x.cancel(0), 0);
        CHECK.due("cancel(2)", x.cancel(2), -1);
        CHECK.due("cancel(3)", x.cancel(3), -1);
        CHECK.due("lift(1)", x.lift(1), -1);
        CHECK.due("pass(0)", x.pass(0), -2);
        CHECK.due("pass(501)", x.pass(501), -2);
        CHECK.due("plan(0)", x.plan(0), -2);
        CHECK.due("plan(501)", x.plan(501), -2);
        CHECK.due("ahead(501, 0)", x.ahead(501, 0), -2);
        CHECK.due("ahead(1, 4)", x.ahead(1, 4), -1);
        CHECK.due("order(-2)", x.order(-2), -1);
        CHECK.same("after these errors", state(x), before);
        CHECK.due("the tape is whole", x.execute(), 1);
        CHECK.due("count(6)", x.count(6), 5);
        CHECK.due("the snapshot is as it was", x.undo(), 3);
        CHECK.due("count(6)", x.count(6), 7);
        LineDispatcher y = CHECK.line("L5;T0>1p1@9999");
        CHECK.until(y, 9990);
        CHECK.due("pass(10)", y.pass(10), -4);
        CHECK.due("count(0)", y.count(0), 9990);
        CHECK.due("undo()", y.undo(), -3);
        CHECK.due("count(0)", y.count(0), 9990);
    }

    private static void exceptThatOfExecute() {
        CHECK.sentence("except that execute empties the tape and keeps the refusal");
        String[] texts = {"L9,9;W9;S1:1r;O0+1@9-10;T0>1p1@9;W0", "L9;T0>1p1@9;X", ""};
        int[] due = {-205, -112, -100};
        int[] reasons = {4, 0, 0};
        for (int i = 0; i < texts.length; i++) {
            LineDispatcher x = busy();
            CHECK.due("execute()", x.execute(), 1);
            String before = Check.all(x);
            CHECK.text(x, texts[i], due[i]);
            CHECK.same("after '" + texts[i] + "'", Check.all(x), before);
            CHECK.due("count(7)", x.count(7), 0);
            CHECK.due("refusal(1)", x.refusal(1), reasons[i]);
        }
    }

    private static void theFirstErrorOfTheTape() {
        CHECK.sentence("If several errors apply, the one that is listed first in the @return line is returned.");
        LineDispatcher x = new LineDispatcher();
        for (int i = 0; i < 60; i++) x.feed(1, 'W', 0, 0, 0, 0);
        CHECK.due("BAD and FULL", x.feed(6, 49, 49, 49, 49, 49), -2);
        CHECK.due("BAD and FULL", x.feed(0, 49, 49, 49, 49, 49), -2);
        CHECK.due("BAD and FULL", x.feed(1, 49, 49, 49, 49, -1), -2);
        CHECK.due("FULL", x.feed(1, 49, 49, 49, 49, 49), -4);
        // A text that is wrong behind a command that would be refused.
        CHECK.wrong(new LineDispatcher(), "W0;X", 3);
        CHECK.wrong(new LineDispatcher(), "S0:1;W0;W", 9);
    }

    private static void theFirstErrorWithoutALine() {
        CHECK.sentence("STATE that there is no line");
        LineDispatcher x = new LineDispatcher();
        int[] values = {-1, 0, 1, 500, 501, Integer.MIN_VALUE, Integer.MAX_VALUE};
        for (int value : values) {
            CHECK.due("pass(" + value + ")", x.pass(value), -3);
            CHECK.due("plan(" + value + ")", x.plan(value), -3);
            for (int other : values) {
                CHECK.due("station(" + value + ", " + other + ")", x.station(value, other), -3);
                CHECK.due("block(" + value + ", " + other + ")", x.block(value, other), -3);
                CHECK.due("ahead(" + value + ", " + other + ")", x.ahead(value, other), -3);
                CHECK.due("held(" + value + ", " + other + ")", x.held(value, other), -3);
            }
        }
    }

    private static void theFirstErrorOfPass() {
        CHECK.sentence("STATE if there is no line; BAD if n is out of range; FULL if it would be above 9999");
        LineDispatcher x = CHECK.line("L5");
        CHECK.until(x, 9999);
        CHECK.due("BAD and FULL", x.pass(501), -2);
        CHECK.due("BAD and FULL", x.pass(Integer.MAX_VALUE), -2);
        CHECK.due("BAD", x.pass(0), -2);
        CHECK.due("FULL", x.pass(500), -4);
    }

    private static void theFirstErrorsOfQuestions() {
        CHECK.sentence("NONE means that a number or selector is invalid, BAD that a value is out of range");
        LineDispatcher x = CHECK.line("L5");
        CHECK.due("BAD and NONE", x.ahead(0, 4), -2);
        CHECK.due("BAD and NONE", x.ahead(501, -1), -2);
        CHECK.due("NONE", x.ahead(1, 4), -1);
        CHECK.due("NONE and BAD", x.held(1, 1), -1);
        CHECK.due("NONE and BAD", x.held(-1, -1), -1);
        CHECK.due("BAD", x.held(0, 1), -2);
        CHECK.due("NONE twice", x.train(0, 10), -1);
    }

    private static void noneOnlyWithoutAnError() {
        CHECK.sentence("The result -5 is returned only if no error applies.");
        LineDispatcher x = CHECK.line("L5;T0>1p1@9;T0>1p1@9");
        CHECK.due("cancel(1)", x.cancel(1), 1);
        CHECK.due("refusal(0)", x.refusal(0), -5);
        CHECK.due("refusal(3)", x.refusal(3), -1);
        CHECK.due("refusal(-1)", x.refusal(-1), -1);
        CHECK.due("train(1, 1)", x.train(1, 1), -5);
        CHECK.due("train(1, 10)", x.train(1, 10), -1);
        CHECK.due("train(1, -1)", x.train(1, -1), -1);
        CHECK.due("block(0, 1)", x.block(0, 1), -5);
        CHECK.due("block(1, 1)", x.block(1, 1), -1);
        CHECK.due("why(1, 1)", x.why(1, 1), -5);
        CHECK.due("why(1, 2)", x.why(1, 2), -1);
        CHECK.due("timetable(1, 0, 0)", x.timetable(1, 0, 0), -5);
        CHECK.due("timetable(1, 0, 2)", x.timetable(1, 0, 2), -1);
        CHECK.due("timetable(1, 2, 0)", x.timetable(1, 2, 0), -1);
        CHECK.due("held(0, 0)", x.held(0, 0), -5);
        CHECK.due("held(0, 1)", x.held(0, 1), -2);
        CHECK.due("account(1, 5)", x.account(1, 5), -1);
    }

    private static void questionsChangeNothing() {
        CHECK.sentence("Questions do not change the state.");
        LineDispatcher x = busy();
        LineDispatcher y = busy();
        for (int what = 0; what < 4; what++) x.ahead(200, what);
        state(x);
        CHECK.same("after many questions", state(x), state(y));
        CHECK.until(x, 20);
        CHECK.until(y, 20);
        CHECK.same("and 16 minutes later", state(x), state(y));
        CHECK.due("x.undo()", x.undo(), 3);
        CHECK.due("y.undo()", y.undo(), 3);
        CHECK.same("and in the snapshot", state(x), state(y));
    }
}
