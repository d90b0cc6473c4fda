import java.util.Random;

/** Random runs of calls, the same in every run of the test, against the document's second program. */
public final class RandomRunsTest {
    private static final int RUNS = 1000, CALLS = 512;

    private final Random random;
    private LineDispatcher x;
    private Model model;
    private StringBuilder history;
    private int stations, trains, calls;
    private boolean failed, fast, jam;

    private RandomRunsTest(long seed) {
        random = new Random(seed);
    }

    public static void main(String[] args) {
        for (int i = 0; i < RUNS; i++) {
            RandomRunsTest test = new RandomRunsTest(i);
            test.run();
            if (!test.failed) continue;
            System.out.println("run with seed " + i + ":\n" + test.history);
            System.exit(1);
        }
    }

    private void run() {
        x = new LineDispatcher();
        model = new Model();
        history = new StringBuilder();
        stations = 0;
        trains = 0;
        calls = 0;
        int busy = random.nextInt(6);
        int texts = 1 + random.nextInt(3);
        fast = random.nextInt(8) == 0;
        jam = random.nextInt(2) == 0;
        // Without a line at first, so that this state is seen, too.
        for (int i = random.nextInt(20); i > 0; i--) ask();
        while (calls < CALLS && !failed) {
            int choice = random.nextInt(20);
            if (choice < texts && trains < 10 || stations == 0) text();
            else if (choice < 7 + busy) change();
            else ask();
        }
    }

    private void due(String call, int got, int want) {
        calls++;
        // What an object answers later is free.
        if (calls > CALLS) return;
        history.append(call).append(" = ").append(got).append('\n');
        if (got == want || failed) return;
        failed = true;
        history.append("due is ").append(want).append('\n');
    }

    /** A number of a range, and now and then one at its edges or outside. */
    private int near(int least, int most) {
        int choice = random.nextInt(24);
        if (choice == 0) return least - 1;
        if (choice == 1) return most + 1;
        if (choice == 2) return least;
        if (choice == 3) return most;
        if (choice == 4 && random.nextInt(8) == 0) return random.nextBoolean() ? Integer.MIN_VALUE : Integer.MAX_VALUE;
        return least + random.nextInt(Math.max(1, most - least + 1));
    }

    /** Gives tracks to a station that has none free for a train, so that trains may run while no time passes. */
    private void loosen() {
        for (int t = 0; t < trains; t++) {
            if (model.why(t, 0) != 5) continue;
            execute("S" + model.why(t, 1) + ":4");
            sweep();
            return;
        }
    }

    private void text() {
        StringBuilder text = new StringBuilder(command());
        int more = random.nextInt(5);
        for (int i = 0; i < more; i++) {
            String next = command();
            if (text.length() + 1 + next.length() <= 60) text.append(';').append(next);
        }
        if (random.nextInt(12) == 0) spoil(text);
        execute(text.toString());
    }

    private void execute(String text) {
        for (int at = 0; at < text.length(); at += 5) {
            int n = Math.min(5, text.length() - at);
            int[] b = new int[5];
            for (int i = 0; i < n; i++) b[i] = text.charAt(at + i);
            due("feed(" + text.substring(at, at + n) + ")", x.feed(n, b[0], b[1], b[2], b[3], b[4]), model.feed(n, b[0], b[1], b[2], b[3], b[4]));
        }
        due("execute()", x.execute(), model.execute());
        stations = model.count(1);
        trains = model.count(2);
        if (random.nextInt(4) == 0 && model.order(-1) > 1) sweep();
        if (random.nextInt(4) == 0) for (int i = 0; i < 3; i++) due("refusal(" + i + ")", x.refusal(i), model.refusal(i));
    }

    private void spoil(StringBuilder text) {
        int at = random.nextInt(text.length());
        String signs = "0123456789LSTOWrph@+-:;>, x";
        switch (random.nextInt(4)) {
            case 0 -> text.setLength(at);
            case 1 -> text.deleteCharAt(at);
            case 2 -> text.setCharAt(at, signs.charAt(random.nextInt(signs.length())));
            default -> text.insert(at, signs.charAt(random.nextInt(signs.length())));
        }
        if (text.length() > 60) text.setLength(60);
    }

    private String command() {
        int choice = random.nextInt(100);
        boolean isOver = trains == 10 && model.count(4) > 6;
        if (stations == 0 ? choice < 80 : choice < (isOver ? 50 : 3)) return lengths();
        int time = model.count(0);
        int place = stations < 2 || random.nextInt(30) == 0 ? random.nextInt(8) : random.nextInt(stations);
        if (choice < (jam ? 30 : 12)) return "S" + place + ":" + (random.nextInt(20) == 0 ? random.nextInt(10) : 1 + random.nextInt(jam ? 3 : 4)) + (random.nextBoolean() ? "r" : "");
        if (choice < (jam ? 32 : 16)) return "W" + (random.nextInt(15) == 0 ? 0 : random.nextInt(120));
        if (choice < (jam ? 44 : 24)) return "O" + place + "+" + random.nextInt(25) + "@" + random.nextInt(time + 60) + "-" + (random.nextInt(10) == 0 ? random.nextInt(time + 1) : time + random.nextInt(200));
        int goal = random.nextInt(Math.max(2, stations));
        if (goal == place) goal = place == 0 ? Math.max(1, stations - 1) : 0;
        if (random.nextInt(20) == 0) goal = random.nextInt(8);
        int ready = random.nextInt(30) == 0 ? random.nextInt(time + 1) : time + random.nextInt(random.nextBoolean() ? 8 : 60);
        String extra = random.nextInt(3) == 0 ? "+" + random.nextInt(10) : "";
        String hours = random.nextInt(2) == 0 ? "h" + (random.nextInt(20) == 0 ? 0 : 10 + random.nextInt(jam ? 40 : 120)) : "";
        return "T" + place + ">" + goal + "p" + random.nextInt(10) + "@" + ready + extra + hours;
    }

    private String lengths() {
        int blocks = 1 + random.nextInt(jam ? 3 : random.nextInt(20) == 0 ? 8 : 7);
        StringBuilder text = new StringBuilder("L");
        for (int i = 0; i < blocks; i++) {
            if (i > 0) text.append(',');
            text.append(random.nextInt(60) == 0 ? random.nextInt(120) : 1 + random.nextInt(jam ? 12 : 40));
        }
        return text.toString();
    }

    private void change() {
        int n;
        if (random.nextInt(10) == 0) loosen();
        if (trains == 10 && model.count(4) > 6 && random.nextInt(4) == 0) text();
        if (fast && random.nextInt(4) == 0) due("pass(500)", x.pass(500), model.pass(500));
        switch (random.nextInt(13)) {
            case 0 -> { n = near(0, 60); due("relief(" + n + ")", x.relief(n), model.relief(n)); }
            case 1 -> { n = random.nextInt(3) == 0 ? 0 : random.nextInt(8); due("relief(" + n + ")", x.relief(n), model.relief(n)); }
            case 2 -> { n = near(0, trains); due("cancel(" + n + ")", x.cancel(n), model.cancel(n)); }
            case 3 -> { n = near(0, 5); due("lift(" + n + ")", x.lift(n), model.lift(n)); if (n == 0) sweep(); }
            case 4 -> { n = near(1, 500); due("plan(" + n + ")", x.plan(n), model.plan(n)); }
            case 5 -> { if (random.nextInt(3) == 0) due("image()", x.image(), model.image()); }
            case 6 -> { if (random.nextInt(6) == 0) due("undo()", x.undo(), model.undo()); stations = model.count(1); trains = model.count(2); }
            case 7 -> { if (fast) { n = near(1, 500); due("pass(" + n + ")", x.pass(n), model.pass(n)); } }
            case 8 -> { if (random.nextInt(4) == 0) junk(); }
            default -> {
                n = 1 + random.nextInt(random.nextInt(6) == 0 ? 40 : 4);
                due("pass(" + n + ")", x.pass(n), model.pass(n));
                if (random.nextInt(4) == 0) sweep();
            }
        }
    }

    /** Bytes that are no text, with wrong numbers among them, until the tape is full, now and then. */
    private void junk() {
        for (int i = random.nextInt(16); i >= 0; i--) {
            int n = random.nextInt(4) == 0 ? near(1, 5) : 5;
            int a = near(0, 127);
            int e = near(0, 127);
            due("feed(" + n + "," + a + ",76,49,48," + e + ")", x.feed(n, a, 76, 49, 48, e), model.feed(n, a, 76, 49, 48, e));
            due("count(7)", x.count(7), model.count(7));
        }
        due("execute()", x.execute(), model.execute());
        due("refusal(2)", x.refusal(2), model.refusal(2));
        stations = model.count(1);
        trains = model.count(2);
    }

    /** Asks of all trains why they do not run, and for the order of dispatching. */
    private void sweep() {
        for (int t = 0; t < trains; t++) {
            due("why(" + t + ",0)", x.why(t, 0), model.why(t, 0));
            due("why(" + t + ",1)", x.why(t, 1), model.why(t, 1));
        }
        for (int i = 0; i <= model.order(-1); i++) due("order(" + i + ")", x.order(i), model.order(i));
    }

    private void ask() {
        int t = near(0, Math.max(0, trains - 1));
        int s = near(0, Math.max(0, stations - 1));
        int b = near(0, Math.max(0, stations - 2));
        int w;
        switch (random.nextInt(16)) {
            case 0 -> { w = near(0, 2); due("refusal(" + w + ")", x.refusal(w), model.refusal(w)); }
            case 1, 2, 3 -> { w = near(0, 9); due("train(" + t + "," + w + ")", x.train(t, w), model.train(t, w)); }
            case 4 -> { w = near(0, 4); due("station(" + s + "," + w + ")", x.station(s, w), model.station(s, w)); }
            case 5 -> { w = near(0, 4); due("block(" + b + "," + w + ")", x.block(b, w), model.block(b, w)); }
            case 6, 7 -> {
                due("why(" + t + ",0)", x.why(t, 0), model.why(t, 0));
                w = near(0, 1);
                due("why(" + t + "," + w + ")", x.why(t, w), model.why(t, w));
            }
            case 8 -> { w = near(-1, 3); due("order(" + w + ")", x.order(w), model.order(w)); }
            case 9 -> { w = near(0, 1); due("timetable(" + t + "," + s + "," + w + ")", x.timetable(t, s, w), model.timetable(t, s, w)); }
            case 10 -> due("drift()", x.drift(), model.drift());
            case 11 -> {
                int n = near(1, 500);
                w = near(0, 3);
                due("ahead(" + n + "," + w + ")", x.ahead(n, w), model.ahead(n, w));
            }
            case 12 -> { w = near(0, model.count(0)); due("held(" + b + "," + w + ")", x.held(b, w), model.held(b, w)); }
            case 13 -> { if (random.nextInt(4) == 0) due("conflicts()", x.conflicts(), model.conflicts()); }
            case 14 -> { w = near(0, 5); due("account(" + t + "," + w + ")", x.account(t, w), model.account(t, w)); }
            default -> { w = near(0, 9); due("count(" + w + ")", x.count(w), model.count(w)); }
        }
    }
}
