import java.util.Random;

/** Random runs of calls, the same in every run of the test, against the document's second program. */
public final class RandomRunsTest {
    private static final int RUNS = 400, CALLS = 512;

    private final Random random;
    private LineDispatcher x;
    private Model model;
    private StringBuilder history;
    private int stations, trains, calls;
    private boolean failed;

    private RandomRunsTest(long seed) {
        random = new Random(seed);
    }

    public static void main(String[] args) {
        for (int i = 0; i < RUNS; i++) {
            RandomRunsTest test = new RandomRunsTest(i);
            test.run();
            if (!test.failed) continue;
            System.out.println("run with seed " + i + ":\n" + test.history);
            System.exit(1);
        }
    }

    private void run() {
        x = new LineDispatcher();
        model = new Model();
        history = new StringBuilder();
        stations = 0;
        trains = 0;
        calls = 0;
        int busy = random.nextInt(4);
        // Without a line at first, so that this state is seen, too.
        for (int i = random.nextInt(20); i > 0; i--) ask();
        while (calls < CALLS && !failed) {
            int choice = random.nextInt(20);
            if (choice < 4 || stations == 0) text();
            else if (choice < 8 + busy) change();
            else ask();
        }
    }

    private void due(String call, int got, int want) {
        calls++;
        history.append(call).append(" = ").append(got).append('\n');
        if (got == want || failed) return;
        failed = true;
        history.append("due is ").append(want).append('\n');
    }

    /** A number of a range, and now and then one at its edges or outside. */
    private int near(int least, int most) {
        int choice = random.nextInt(24);
        if (choice == 0) return least - 1;
        if (choice == 1) return most + 1;
        if (choice == 2) return least;
        if (choice == 3) return most;
        if (choice == 4 && random.nextInt(8) == 0) return random.nextBoolean() ? Integer.MIN_VALUE : Integer.MAX_VALUE;
        return least + random.nextInt(Math.max(1, most - least + 1));
    }

    private void text() {
        StringBuilder text = new StringBuilder(command());
        int more = random.nextInt(5);
        for (int i = 0; i < more; i++) {
            String next = command();
            if (text.length() + 1 + next.length() <= 60) text.append(';').append(next);
        }
        if (random.nextInt(12) == 0) spoil(text);
        for (int at = 0; at < text.length(); at += 5) {
            int n = Math.min(5, text.length() - at);
            int[] b = new int[5];
            for (int i = 0; i < n; i++) b[i] = text.charAt(at + i);
            due("feed(" + text.substring(at, at + n) + ")", x.feed(n, b[0], b[1], b[2], b[3], b[4]), model.feed(n, b[0], b[1], b[2], b[3], b[4]));
        }
        due("execute()", x.execute(), model.execute());
        stations = model.count(1);
        trains = model.count(2);
        if (random.nextInt(4) == 0) for (int i = 0; i < 3; i++) due("refusal(" + i + ")", x.refusal(i), model.refusal(i));
    }

    private void spoil(StringBuilder text) {
        int at = random.nextInt(text.length());
        String signs = "0123456789LSTOWrph@+-:;>, x";
        switch (random.nextInt(4)) {
            case 0 -> text.setLength(at);
            case 1 -> text.deleteCharAt(at);
            case 2 -> text.setCharAt(at, signs.charAt(random.nextInt(signs.length())));
            default -> text.insert(at, signs.charAt(random.nextInt(signs.length())));
        }
        if (text.length() > 60) text.setLength(60);
    }

    private String command() {
        int choice = random.nextInt(100);
        if (stations == 0 ? choice < 60 : choice < 3) return lengths();
        int time = model.count(0);
        int place = stations < 2 || random.nextInt(30) == 0 ? random.nextInt(8) : random.nextInt(stations);
        if (choice < 20) return "S" + place + ":" + (random.nextInt(10) == 0 ? random.nextInt(10) : 1 + random.nextInt(4)) + (random.nextBoolean() ? "r" : "");
        if (choice < 30) return "W" + (random.nextInt(15) == 0 ? 0 : random.nextInt(120));
        if (choice < 45) return "O" + place + "+" + random.nextInt(25) + "@" + random.nextInt(time + 60) + "-" + (random.nextInt(10) == 0 ? random.nextInt(time + 1) : time + random.nextInt(200));
        int goal = random.nextInt(20) == 0 ? random.nextInt(8) : random.nextInt(Math.max(2, stations));
        int ready = random.nextInt(20) == 0 ? random.nextInt(time + 1) : time + random.nextInt(60);
        String extra = random.nextInt(3) == 0 ? "+" + random.nextInt(10) : "";
        String hours = random.nextInt(2) == 0 ? "h" + (random.nextInt(20) == 0 ? 0 : 10 + random.nextInt(120)) : "";
        return "T" + place + ">" + goal + "p" + random.nextInt(10) + "@" + ready + extra + hours;
    }

    private String lengths() {
        int blocks = 1 + random.nextInt(random.nextInt(20) == 0 ? 8 : 7);
        StringBuilder text = new StringBuilder("L");
        for (int i = 0; i < blocks; i++) {
            if (i > 0) text.append(',');
            text.append(random.nextInt(60) == 0 ? random.nextInt(120) : 1 + random.nextInt(40));
        }
        return text.toString();
    }

    private void change() {
        int n;
        switch (random.nextInt(12)) {
            case 0 -> { n = near(0, 60); due("relief(" + n + ")", x.relief(n), model.relief(n)); }
            case 1 -> { n = random.nextInt(3) == 0 ? 0 : random.nextInt(8); due("relief(" + n + ")", x.relief(n), model.relief(n)); }
            case 2 -> { n = near(0, trains); due("cancel(" + n + ")", x.cancel(n), model.cancel(n)); }
            case 3 -> { n = near(0, 5); due("lift(" + n + ")", x.lift(n), model.lift(n)); }
            case 4 -> { n = near(1, 500); due("plan(" + n + ")", x.plan(n), model.plan(n)); }
            case 5 -> { if (random.nextInt(3) == 0) due("image()", x.image(), model.image()); }
            case 6 -> { if (random.nextInt(6) == 0) due("undo()", x.undo(), model.undo()); stations = model.count(1); trains = model.count(2); }
            case 7 -> { n = near(1, 500); due("pass(" + n + ")", x.pass(n), model.pass(n)); }
            case 8 -> due("execute()", x.execute(), model.execute());
            default -> { n = 1 + random.nextInt(random.nextInt(4) == 0 ? 60 : 8); due("pass(" + n + ")", x.pass(n), model.pass(n)); }
        }
    }

    private void ask() {
        int t = near(0, Math.max(0, trains - 1));
        int s = near(0, Math.max(0, stations - 1));
        int b = near(0, Math.max(0, stations - 2));
        int w;
        switch (random.nextInt(16)) {
            case 0 -> { w = near(0, 2); due("refusal(" + w + ")", x.refusal(w), model.refusal(w)); }
            case 1, 2, 3 -> { w = near(0, 9); due("train(" + t + "," + w + ")", x.train(t, w), model.train(t, w)); }
            case 4 -> { w = near(0, 4); due("station(" + s + "," + w + ")", x.station(s, w), model.station(s, w)); }
            case 5 -> { w = near(0, 4); due("block(" + b + "," + w + ")", x.block(b, w), model.block(b, w)); }
            case 6, 7 -> {
                due("why(" + t + ",0)", x.why(t, 0), model.why(t, 0));
                w = near(0, 1);
                due("why(" + t + "," + w + ")", x.why(t, w), model.why(t, w));
            }
            case 8 -> { w = near(-1, 3); due("order(" + w + ")", x.order(w), model.order(w)); }
            case 9 -> { w = near(0, 1); due("timetable(" + t + "," + s + "," + w + ")", x.timetable(t, s, w), model.timetable(t, s, w)); }
            case 10 -> due("drift()", x.drift(), model.drift());
            case 11 -> {
                int n = near(1, 500);
                w = near(0, 3);
                due("ahead(" + n + "," + w + ")", x.ahead(n, w), model.ahead(n, w));
            }
            case 12 -> { w = near(0, model.count(0)); due("held(" + b + "," + w + ")", x.held(b, w), model.held(b, w)); }
            case 13 -> { if (random.nextInt(4) == 0) due("conflicts()", x.conflicts(), model.conflicts()); }
            case 14 -> { w = near(0, 5); due("account(" + t + "," + w + ")", x.account(t, w), model.account(t, w)); }
            default -> { w = near(0, 9); due("count(" + w + ")", x.count(w), model.count(w)); }
        }
    }
}
