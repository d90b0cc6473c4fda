import java.io.IOException;
import java.io.UncheckedIOException;
import java.nio.file.Files;
import java.nio.file.Path;

/** What the tests share: telling an answer that is not due, and feeding whole texts. */
final class Check {
    private static final int STATION_COUNT = 1, ABSENT = -5;

    private int wrong = 0;
    private int asked = 0;
    /** The words of the document that the answers are held against, empty where a test names none. */
    private String sentence = "";
    private String document = "";

    /** Names the words of the document for the answers that follow; the document must say them still. */
    void sentence(String words) {
        if (document.isEmpty()) document = read(Path.of("../shared/DOC.md")).replaceAll("\\s+", " ");
        sentence = " (\"" + words + "\")";
        asked++;
        if (document.isEmpty() || document.contains(words)) return;
        wrong++;
        System.out.println("the document does not say" + sentence);
    }

    /** The answers are due without the document, too, so a missing one is empty. */
    private static String read(Path file) {
        try {
            return Files.exists(file) ? Files.readString(file) : "";
        } catch (IOException e) {
            throw new UncheckedIOException(e);
        }
    }

    /** Tells a call whose answer is not the one that is due. */
    void due(String call, int got, int want) {
        asked++;
        if (got == want) return;
        wrong++;
        System.out.println(call + " answered " + got + ", due is " + want + sentence);
    }

    /** What the trains from 0 on are doing. */
    void states(LineDispatcher x, int... due) {
        for (int i = 0; i < due.length; i++) due("at " + x.count(0) + " train(" + i + ", 0)", x.train(i, 0), due[i]);
    }

    /** The trains in the order of dispatching. */
    void order(LineDispatcher x, int... due) {
        due("at " + x.count(0) + " order(-1)", x.order(-1), due.length);
        for (int i = 0; i < due.length; i++) due("at " + x.count(0) + " order(" + i + ")", x.order(i), due[i]);
    }

    /** Why a train does not run, and the number with that. */
    void why(LineDispatcher x, int train, int reason, int number) {
        due("at " + x.count(0) + " why(" + train + ", 0)", x.why(train, 0), reason);
        due("at " + x.count(0) + " why(" + train + ", 1)", x.why(train, 1), number);
    }

    /** The drift at a minute. */
    void drift(LineDispatcher x, int minute, int due) {
        until(x, minute);
        due("at " + minute + " drift()", x.drift(), due);
    }

    /** Feeds a text, as many bytes at a time as can be. */
    void feed(LineDispatcher x, String text) {
        for (int at = 0; at < text.length(); at += 5) {
            int n = Math.min(5, text.length() - at);
            int[] bytes = new int[5];
            for (int i = 0; i < n; i++) bytes[i] = text.charAt(at + i);
            int before = x.count(7);
            due("feed of '" + text + "' at " + at, x.feed(n, bytes[0], bytes[1], bytes[2], bytes[3], bytes[4]), before + n);
        }
    }

    /** Feeds and executes a text, and tells its answer if it is not the one that is due. */
    void text(LineDispatcher x, String text, int want) {
        feed(x, text);
        due("execute of '" + text + "'", x.execute(), want);
    }

    /** A text that is refused, with the whole chain of causes. */
    void refused(LineDispatcher x, String text, int command, int reason, int told) {
        text(x, text, -200 - command);
        due("refusal(0) of '" + text + "'", x.refusal(0), command);
        due("refusal(1) of '" + text + "'", x.refusal(1), reason);
        due("refusal(2) of '" + text + "'", x.refusal(2), told);
    }

    /** A text that is wrong, with its error position and the byte there. */
    void wrong(LineDispatcher x, String text, int position) {
        text(x, text, -100 - position);
        due("refusal(0) of '" + text + "'", x.refusal(0), position);
        due("refusal(1) of '" + text + "'", x.refusal(1), 0);
        due("refusal(2) of '" + text + "'", x.refusal(2), position < text.length() ? text.charAt(position) : -1);
    }

    /** Lets time pass up to a minute. */
    void until(LineDispatcher x, int minute) {
        for (int time = x.count(0); time < minute; ) {
            int n = Math.min(500, minute - time);
            time += n;
            due("pass(" + n + ") to " + time, x.pass(n), time);
        }
        due("the minute", x.count(0), minute);
    }

    /** A new object with a line. */
    LineDispatcher line(String text) {
        LineDispatcher x = new LineDispatcher();
        int commands = 1;
        for (int i = 0; i < text.length(); i++) if (text.charAt(i) == ';') commands++;
        text(x, text, commands);
        return x;
    }

    /**
     * What questions answer of an object, but for the latest refusal and the tape. An object is there for 512 calls,
     * so this asks each thing once, and of the minutes that have passed the last ten.
     */
    static String all(LineDispatcher x) {
        StringBuilder told = new StringBuilder();
        int[] counts = new int[10];
        for (int what = 0; what < 10; what++) {
            counts[what] = x.count(what);
            if (what != 7) told.append(counts[what]).append(' ');
        }
        int stations = counts[STATION_COUNT];
        for (int station = 0; station < stations; station++) {
            told.append("\nstation ").append(station).append(':');
            for (int what = 0; what < 5; what++) told.append(' ').append(x.station(station, what));
        }
        for (int block = 0; block + 1 < stations; block++) {
            told.append("\nblock ").append(block).append(':');
            for (int what = 0; what < 5; what++) told.append(' ').append(x.block(block, what));
            for (int back = 0; back < 10 && back <= counts[0]; back++) told.append(' ').append(x.held(block, counts[0] - back));
        }
        for (int train = 0; train < counts[2]; train++) allOfTrain(x, train, stations, told);
        told.append("\norder:");
        int waiting = x.order(-1);
        for (int i = 0; i < waiting; i++) told.append(' ').append(x.order(i));
        told.append("\ndrift ").append(x.drift()).append(" conflicts ").append(x.conflicts());
        return told.toString();
    }

    private static void allOfTrain(LineDispatcher x, int train, int stations, StringBuilder told) {
        told.append("\ntrain ").append(train).append(':');
        for (int what = 0; what < 10; what++) told.append(' ').append(x.train(train, what));
        told.append(" why ").append(x.why(train, 0)).append(' ').append(x.why(train, 1)).append(" accounts");
        for (int what = 0; what < 6; what++) told.append(' ').append(x.account(train, what));
        told.append(" timetable");
        for (int station = 0; station < stations; station++) {
            told.append(' ').append(x.timetable(train, station, 0)).append('/').append(x.timetable(train, station, 1));
        }
    }

    /** Tells where two states differ that should be the same. */
    void same(String what, String got, String want) {
        asked++;
        if (got.equals(want)) return;
        wrong++;
        System.out.println(what + sentence + ": the state is\n" + got + "\ndue is\n" + want);
    }

    static int absent() {
        return ABSENT;
    }

    /** Ends the test, with exit code 1 if an answer was not due. */
    void end() {
        if (wrong == 0) return;
        System.out.println(wrong + " of " + asked + " answers are not as due");
        System.exit(1);
    }
}
