/** Promise 21: image. */
public final class ImageTest {
    private static final Check CHECK = new Check();

    public static void main(String[] args) {
        itsAnswer();
        inPlaceOfAnEarlierOne();
        itChangesNothing();
        CHECK.end();
    }

    private static void itsAnswer() {
        LineDispatcher x = new LineDispatcher();
        CHECK.due("image()", x.image(), 0);
        CHECK.text(x, "L5", 1);
        CHECK.until(x, 17);
        CHECK.due("image()", x.image(), 17);
        CHECK.due("undo()", x.undo(), 17);
    }

    private static void inPlaceOfAnEarlierOne() {
        LineDispatcher x = CHECK.line("L5");
        for (int minute = 10; minute < 50; minute += 10) {
            CHECK.until(x, minute);
            CHECK.due("image()", x.image(), minute);
        }
        CHECK.until(x, 70);
        CHECK.due("undo()", x.undo(), 40);
        CHECK.due("count(0)", x.count(0), 40);
    }

    private static void itChangesNothing() {
        LineDispatcher x = CHECK.line("L6,9,4;S1:1r;W8;T0>3p2@0h15;T3>0p5@2+1h20;T0>2p7@4");
        CHECK.until(x, 11);
        x.plan(30);
        CHECK.text(x, "W0", -200);
        CHECK.feed(x, "W5");
        String before = Check.all(x);
        CHECK.due("image()", x.image(), 11);
        CHECK.same("after image", Check.all(x), before);
        CHECK.due("the plan stays", x.drift(), 0);
        CHECK.due("the refusal stays", x.refusal(1), 4);
        CHECK.due("the tape stays", x.execute(), 1);
    }
}
