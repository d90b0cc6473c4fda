/** The boundaries that the document's section "Timetables" and its promises 14 to 17 name, one by one. */
public final class EdgesOfPlansTest {
    private static final Check CHECK = new Check();
    private static final int[] FAR = {Integer.MIN_VALUE, Integer.MAX_VALUE};

    public static void main(String[] args) {
        withinThePlan();
        whatHasHappenedIsNoPart();
        untilTheNextPlan();
        untilANewLine();
        untilAnOlderState();
        aMinuteThatHasPassed();
        whatHasHappened();
        minutesOfAPlan();
        numberOfEntries();
        noEntry();
        noSuchEntry();
        noPlan();
        plannedUpToThePresent();
        comeWithinThePlan();
        comeAfterThePlanWasMade();
        minutesThatDiffer();
        onlyOneOfThem();
        removedTrains();
        minutesOfAForecast();
        selectorsOfAForecast();
        trainsThatHaveEnded();
        trainsInBlocks();
        waitingFromTheBeginning();
        waitingAlone();
        quietBehindTheLastTrain();
        notQuietInRelief();
        notQuietOutside();
        notQuietWithAFreeTrack();
        quietWhenNoneMayRun();
        noCrewAsTheOnlyReason();
        CHECK.end();
    }

    private static void withinThePlan() {
        CHECK.sentence("it consists of the arrivals and departures that come within them if no call changes anything");
        int[] minutes = {1, 2, 6, 7, 13, 14, 500};
        int[] due = {0, 2, 2, 4, 4, 5, 5};
        for (int i = 0; i < due.length; i++) {
            LineDispatcher x = CHECK.line("L5,7;T0>2p1@2");
            CHECK.due("plan(" + minutes[i] + ")", x.plan(minutes[i]), due[i]);
            CHECK.due("timetable(0, 0, 1)", x.timetable(0, 0, 1), i == 0 ? -5 : 2);
            CHECK.due("timetable(0, 1, 0)", x.timetable(0, 1, 0), minutes[i] < 7 ? -5 : 7);
            CHECK.due("timetable(0, 2, 0)", x.timetable(0, 2, 0), minutes[i] < 14 ? -5 : 14);
        }
    }

    private static void whatHasHappenedIsNoPart() {
        CHECK.sentence("A plan is made for some minutes from the present on");
        LineDispatcher x = CHECK.line("L5,7;T0>2p1@2");
        CHECK.until(x, 2);
        CHECK.due("plan(4)", x.plan(4), 0);
        CHECK.due("plan(5)", x.plan(5), 2);
        CHECK.until(x, 6);
        CHECK.due("plan(500)", x.plan(500), 3);
        CHECK.until(x, 7);
        CHECK.due("plan(500)", x.plan(500), 1);
        CHECK.until(x, 14);
        CHECK.due("plan(500)", x.plan(500), 0);
    }

    private static void untilTheNextPlan() {
        CHECK.sentence("It stays until the next plan is made");
        LineDispatcher x = CHECK.line("L5;T0>1p1@20");
        CHECK.due("plan(50)", x.plan(50), 3);
        CHECK.due("plan(0)", x.plan(0), -2);
        CHECK.due("plan(501)", x.plan(501), -2);
        CHECK.text(x, "W5;S1:1;O0+1@1-2;T0>1p1@1", 4);
        CHECK.due("the plan stays", x.timetable(0, 1, 0), 25);
        CHECK.due("plan(24)", x.plan(24), 5);
        CHECK.due("the old one has gone", x.timetable(0, 1, 0), -5);
        CHECK.due("the new one tells", x.timetable(0, 0, 1), 20);
        CHECK.due("plan(1)", x.plan(1), 2);
        CHECK.due("the old one has gone", x.timetable(0, 0, 1), -5);
    }

    private static void untilANewLine() {
        CHECK.sentence("until the next plan is made, a line is made");
        LineDispatcher x = CHECK.line("L5;T0>1p1@20");
        CHECK.due("plan(50)", x.plan(50), 3);
        CHECK.text(x, "L5;T0>1p1@20;W0", -202);
        CHECK.text(x, "L5;T0>1p1@20;", -113);
        CHECK.due("the plan stays", x.timetable(0, 1, 0), 25);
        CHECK.due("the plan stays", x.drift(), 0);
        CHECK.text(x, "L5;T0>1p1@20", 2);
        CHECK.due("none on the new line", x.timetable(0, 1, 0), -5);
        CHECK.due("none on the new line", x.drift(), -5);
        CHECK.due("plan(50)", x.plan(50), 3);
        CHECK.text(x, "W5;L5;T0>1p1@20", 3);
        CHECK.due("none, wherever L stands", x.drift(), -5);
    }

    private static void untilAnOlderState() {
        CHECK.sentence("or an older state is restored");
        LineDispatcher x = CHECK.line("L5;T0>1p1@20");
        CHECK.due("plan(50)", x.plan(50), 3);
        CHECK.due("undo()", x.undo(), -3);
        CHECK.due("image()", x.image(), 0);
        CHECK.due("the plan stays", x.timetable(0, 1, 0), 25);
        CHECK.until(x, 3);
        CHECK.due("undo()", x.undo(), 0);
        CHECK.due("no plan", x.timetable(0, 1, 0), -5);
        CHECK.due("no plan", x.drift(), -5);
        CHECK.due("plan(50)", x.plan(50), 3);
        CHECK.due("a plan again", x.timetable(0, 1, 0), 25);
    }

    private static void aMinuteThatHasPassed() {
        CHECK.sentence("and otherwise what the plan tells, also for a minute that has passed");
        LineDispatcher x = CHECK.line("L5;T0>1p1@3");
        CHECK.due("plan(50)", x.plan(50), 3);
        CHECK.due("cancel(0)", x.cancel(0), 1);
        int[] minutes = {2, 3, 8, 9, 500};
        for (int minute : minutes) {
            CHECK.until(x, minute);
            CHECK.due("at " + minute + " timetable(0, 0, 0)", x.timetable(0, 0, 0), 3);
            CHECK.due("at " + minute + " timetable(0, 0, 1)", x.timetable(0, 0, 1), 3);
            CHECK.due("at " + minute + " timetable(0, 1, 0)", x.timetable(0, 1, 0), 8);
        }
    }

    private static void whatHasHappened() {
        CHECK.sentence("The timetable tells what has happened");
        LineDispatcher x = CHECK.line("L5,5;T0>2p1@3");
        CHECK.due("plan(50)", x.plan(50), 5);
        CHECK.text(x, "O0+2@0-9", 1);
        int[] minutes = {7, 8, 9, 10, 14, 15};
        int[] arrivals = {8, 8, 8, 10, 10, 10};
        int[] ends = {13, 13, 13, 13, 13, 15};
        for (int i = 0; i < minutes.length; i++) {
            CHECK.until(x, minutes[i]);
            CHECK.due("at " + minutes[i] + " timetable(0, 1, 0)", x.timetable(0, 1, 0), arrivals[i]);
            CHECK.due("at " + minutes[i] + " timetable(0, 1, 1)", x.timetable(0, 1, 1), arrivals[i]);
            CHECK.due("at " + minutes[i] + " timetable(0, 2, 0)", x.timetable(0, 2, 0), ends[i]);
        }
    }

    private static void minutesOfAPlan() {
        CHECK.sentence("Makes a plan. - `n`: the number of minutes, 1 to 500");
        LineDispatcher x = CHECK.line("L5;T0>1p1@500;T0>1p1@501");
        for (int n : new int[] {0, -1, 501, FAR[0], FAR[1]}) {
            CHECK.due("plan(" + n + ")", x.plan(n), -2);
            CHECK.due("no plan", x.drift(), -5);
        }
        CHECK.due("plan(1)", x.plan(1), 0);
        CHECK.due("a plan", x.drift(), 0);
        CHECK.due("plan(499)", x.plan(499), 0);
        CHECK.due("plan(500)", x.plan(500), 2);
        CHECK.due("timetable(0, 0, 0)", x.timetable(0, 0, 0), 500);
        CHECK.due("timetable(1, 0, 0)", x.timetable(1, 0, 0), -5);
    }

    private static void numberOfEntries() {
        CHECK.sentence("Returns the number of arrivals and departures in it");
        LineDispatcher x = CHECK.line("L1,1,1,1,1,1,1");
        CHECK.due("without trains", x.plan(500), 0);
        CHECK.text(x, "T0>7p1@0", 1);
        CHECK.due("one train", x.plan(500), 15);
        CHECK.text(x, "T0>7p1@50;T0>7p1@99;T0>7p1@99;T0>7p1@99", 4);
        CHECK.text(x, "T7>0p1@199;T7>0p1@199;T7>0p1@199;T7>0p1@299;T7>0p1@299", 5);
        CHECK.due("ten trains", x.plan(500), 150);
        CHECK.until(x, 500);
        CHECK.due("all have ended", x.count(4), 10);
        CHECK.due("as planned", x.drift(), 0);
        CHECK.due("nothing comes", x.plan(500), 0);
    }

    private static void noEntry() {
        CHECK.sentence("Returns the minute, -5 if there is none");
        LineDispatcher x = CHECK.line("L5,5;T1>2p1@3");
        int[] due = {-5, 3, 8, -5, 3, -5};
        for (int i = 0; i < due.length; i++) CHECK.due("not yet", x.timetable(0, i % 3, i / 3), -5);
        CHECK.due("plan(2)", x.plan(2), 0);
        for (int i = 0; i < due.length; i++) CHECK.due("not planned", x.timetable(0, i % 3, i / 3), -5);
        CHECK.due("plan(8)", x.plan(8), 3);
        for (int i = 0; i < due.length; i++) CHECK.due("planned", x.timetable(0, i % 3, i / 3), due[i]);
        CHECK.text(x, "T1>2p1@3", 1);
        for (int i = 0; i < due.length; i++) CHECK.due("not planned", x.timetable(1, i % 3, i / 3), -5);
    }

    private static void noSuchEntry() {
        CHECK.sentence("NONE if there is no such train or station, or what is invalid");
        LineDispatcher x = CHECK.line("L5,5;T0>1p1@9;T0>1p1@9");
        CHECK.due("plan(50)", x.plan(50), 6);
        CHECK.due("cancel(1)", x.cancel(1), 1);
        CHECK.due("a removed train is one", x.timetable(1, 1, 0), 19);
        CHECK.due("the last station", x.timetable(1, 2, 1), -5);
        for (int train : new int[] {-1, 2, 9, 10, FAR[0], FAR[1]}) CHECK.due("train " + train, x.timetable(train, 0, 0), -1);
        for (int station : new int[] {-1, 3, 7, 8, FAR[0], FAR[1]}) CHECK.due("station " + station, x.timetable(0, station, 0), -1);
        for (int what : new int[] {-1, 2, FAR[0], FAR[1]}) CHECK.due("what " + what, x.timetable(0, 0, what), -1);
    }

    private static void noPlan() {
        CHECK.sentence("Returns the number; -5 if there is no plan");
        LineDispatcher x = new LineDispatcher();
        CHECK.due("without a line", x.drift(), -5);
        CHECK.text(x, "L5;T0>1p1@0", 2);
        CHECK.drift(x, 0, -5);
        CHECK.drift(x, 20, -5);
        CHECK.due("plan(501)", x.plan(501), -2);
        CHECK.drift(x, 20, -5);
        CHECK.due("plan(1)", x.plan(1), 0);
        CHECK.drift(x, 20, 0);
    }

    private static void plannedUpToThePresent() {
        CHECK.sentence("it was planned for a minute up to the present");
        LineDispatcher x = CHECK.line("L5;T0>1p1@3");
        CHECK.due("plan(50)", x.plan(50), 3);
        CHECK.text(x, "O0+1@0-9", 1);
        CHECK.drift(x, 7, 0);
        CHECK.drift(x, 8, 1);
        CHECK.drift(x, 9, 1);
        CHECK.drift(x, 500, 1);
    }

    private static void comeWithinThePlan() {
        CHECK.sentence("or has come after the plan was made and within its minutes");
        LineDispatcher x = CHECK.line("L5");
        CHECK.until(x, 10);
        CHECK.due("plan(7)", x.plan(7), 0);
        CHECK.text(x, "T0>1p1@12;T1>0p1@18", 2);
        CHECK.drift(x, 11, 0);
        CHECK.drift(x, 12, 2);
        // The arrival at 17 is in its last minute.
        CHECK.drift(x, 16, 2);
        CHECK.drift(x, 17, 3);
        CHECK.drift(x, 18, 3);
        CHECK.drift(x, 500, 3);
        LineDispatcher y = CHECK.line("L5");
        CHECK.due("plan(7)", y.plan(7), 0);
        CHECK.text(y, "T0>1p1@3", 1);
        CHECK.drift(y, 3, 2);
        CHECK.drift(y, 8, 2);
    }

    private static void comeAfterThePlanWasMade() {
        CHECK.sentence("has come after the plan was made");
        LineDispatcher x = CHECK.line("L5;T0>1p1@3");
        CHECK.until(x, 3);
        CHECK.due("plan(4)", x.plan(4), 0);
        CHECK.drift(x, 3, 0);
        CHECK.drift(x, 7, 0);
        CHECK.drift(x, 8, 0);
    }

    private static void minutesThatDiffer() {
        CHECK.sentence("and these two minutes are not the same");
        LineDispatcher x = CHECK.line("L5,5;T0>2p1@3;O0+2@0-9;O1+2@0-99");
        // Planned: 3 and 3, 10 and 10, 17. It will be 3 and 3, 8 and 8, 15.
        CHECK.due("plan(50)", x.plan(50), 5);
        CHECK.due("lift(0)", x.lift(0), 1);
        CHECK.drift(x, 3, 0);
        CHECK.drift(x, 7, 0);
        CHECK.drift(x, 8, 2);
        CHECK.drift(x, 14, 2);
        CHECK.drift(x, 15, 3);
        CHECK.drift(x, 17, 3);
        LineDispatcher y = CHECK.line("L5,5;T0>2p1@3;O0+2@0-9");
        CHECK.due("plan(50)", y.plan(50), 5);
        for (int minute = 1; minute < 30; minute++) CHECK.drift(y, minute, 0);
    }

    private static void onlyOneOfThem() {
        CHECK.sentence("or there is only one of them");
        LineDispatcher x = CHECK.line("L5;S0:3;T0>1p1@3h9;T0>1p1@3h1");
        // Planned: 3 and 3, 8, and the arrival of train 1 at 3. A slow order lets train 0 not run at all.
        CHECK.due("plan(50)", x.plan(50), 4);
        CHECK.text(x, "O0+9@0-9999", 1);
        CHECK.drift(x, 2, 0);
        CHECK.drift(x, 3, 1);
        CHECK.drift(x, 7, 1);
        CHECK.drift(x, 8, 2);
        CHECK.text(x, "T0>1p1@10", 1);
        CHECK.drift(x, 9, 2);
        CHECK.drift(x, 10, 4);
        CHECK.drift(x, 24, 5);
    }

    private static void removedTrains() {
        CHECK.sentence("together, of removed trains, too, is not as in the latest plan");
        LineDispatcher x = CHECK.line("L5;T0>1p1@3;T0>1p1@20");
        CHECK.due("plan(24)", x.plan(24), 5);
        CHECK.due("cancel(0)", x.cancel(0), 1);
        CHECK.due("cancel(1)", x.cancel(1), 1);
        CHECK.drift(x, 2, 0);
        CHECK.drift(x, 3, 2);
        CHECK.drift(x, 7, 2);
        CHECK.drift(x, 8, 3);
        CHECK.drift(x, 19, 3);
        CHECK.drift(x, 20, 5);
        CHECK.drift(x, 500, 5);
    }

    private static void ahead(LineDispatcher x, int n, int what, int due) {
        CHECK.due("at " + x.count(0) + " ahead(" + n + ", " + what + ")", x.ahead(n, what), due);
    }

    private static void minutesOfAForecast() {
        CHECK.sentence("Returns what would be after some minutes if no call changed anything."
                + " - `n`: the number of minutes, 1 to 500");
        LineDispatcher x = CHECK.line("L5;T0>1p1@500;T0>1p1@501;T0>1p1@1");
        for (int what = 0; what < 4; what++) {
            for (int n : new int[] {0, -1, 501, FAR[0], FAR[1]}) ahead(x, n, what, -2);
        }
        ahead(x, 1, 1, 1);
        ahead(x, 499, 1, 0);
        ahead(x, 500, 1, 1);
        CHECK.due("no time has passed", x.count(0), 0);
    }

    private static void selectorsOfAForecast() {
        CHECK.sentence("BAD if n is out of range; NONE if what is invalid");
        LineDispatcher x = CHECK.line("L5");
        int[] due = {0, 0, 0, 1};
        for (int what = 0; what < 4; what++) ahead(x, 1, what, due[what]);
        for (int what : new int[] {-1, 4, FAR[0], FAR[1]}) {
            ahead(x, 1, what, -1);
            ahead(x, 0, what, -2);
            ahead(x, 501, what, -2);
        }
    }

    private static void trainsThatHaveEnded() {
        CHECK.sentence("0 for the trains that have ended");
        LineDispatcher x = CHECK.line("L5;T0>1p1@0;T0>1p1@0;T0>1p1@0;T0>1p1@7");
        CHECK.due("cancel(2)", x.cancel(2), 1);
        int[] minutes = {1, 5, 6, 10, 11, 15, 16, 500};
        int[] due = {0, 0, 1, 1, 2, 2, 3, 3};
        for (int i = 0; i < due.length; i++) ahead(x, minutes[i], 0, due[i]);
        CHECK.until(x, 6);
        ahead(x, 1, 0, 1);
        ahead(x, 5, 0, 2);
    }

    private static void trainsInBlocks() {
        CHECK.sentence("1 for those in blocks");
        LineDispatcher x = CHECK.line("L5,9;T0>1p1@0;T2>1p1@3");
        int[] minutes = {1, 2, 3, 5, 6, 11, 12};
        int[] due = {1, 1, 2, 2, 1, 1, 0};
        for (int i = 0; i < due.length; i++) ahead(x, minutes[i], 1, due[i]);
    }

    private static void waitingFromTheBeginning() {
        CHECK.sentence("from their beginnings on, those to come included");
        LineDispatcher x = CHECK.line("L5;T0>1p1@0;T0>1p9@0;T0>1p1@4");
        // Train 0 waits from 1 to 6, and train 2 from 4 to 11.
        int[] minutes = {1, 2, 4, 5, 6, 7, 11, 12, 500};
        int[] due = {0, 1, 3, 5, 7, 8, 12, 12, 12};
        for (int i = 0; i < due.length; i++) ahead(x, minutes[i], 2, due[i]);
        CHECK.until(x, 5);
        ahead(x, 1, 2, 7);
        CHECK.until(x, 100);
        ahead(x, 1, 2, 12);
    }

    private static void waitingAlone() {
        CHECK.sentence("2 for the sum of all minutes that trains wait in stations");
        // Train 0 runs, and rests from 6 to 16; train 1 waits in station 2, and train 2 outside.
        LineDispatcher x = CHECK.line("L5,5;S1:2r;S2:1;T0>2p1@0h9;T2>1p1@0h1;T2>1p1@0;T0>1p1@99");
        CHECK.due("cancel(3)", x.cancel(3), 1);
        ahead(x, 1, 2, 0);
        ahead(x, 6, 2, 5);
        ahead(x, 16, 2, 15);
        ahead(x, 21, 2, 20);
    }

    private static void quietBehindTheLastTrain() {
        CHECK.sentence("3 for whether nothing goes on (1 or 0): no train is in a block or in relief");
        LineDispatcher x = CHECK.line("L5,5;T0>2p1@0;T0>1p1@99");
        CHECK.due("cancel(1)", x.cancel(1), 1);
        int[] minutes = {1, 5, 6, 10, 11, 12, 500};
        int[] due = {0, 0, 0, 0, 1, 1, 1};
        for (int i = 0; i < due.length; i++) ahead(x, minutes[i], 3, due[i]);
    }

    private static void notQuietInRelief() {
        CHECK.sentence("no train is in a block or in relief");
        LineDispatcher x = CHECK.line("L5,5;S1:2r;T0>2p1@0h9");
        ahead(x, 6, 3, 0);
        ahead(x, 15, 3, 0);
        CHECK.until(x, 14);
        ahead(x, 1, 3, 0);
        ahead(x, 7, 3, 1);
    }

    private static void notQuietOutside() {
        CHECK.sentence("none is outside that is not ready");
        LineDispatcher x = CHECK.line("L5;S0:1;T0>1p1@0h1;T0>1p1@9h1");
        ahead(x, 1, 3, 0);
        ahead(x, 8, 3, 0);
        ahead(x, 9, 3, 1);
        ahead(x, 500, 3, 1);
    }

    private static void notQuietWithAFreeTrack() {
        CHECK.sentence("or whose first station has a free track");
        // Train 0 enters block 1 at 1, after train 1 has found no track.
        LineDispatcher x = CHECK.line("L5,5;S1:1;T1>2p1@0;T1>2p1@0h1");
        ahead(x, 1, 3, 0);
        ahead(x, 2, 3, 0);
        ahead(x, 6, 3, 1);
    }

    private static void quietWhenNoneMayRun() {
        CHECK.sentence("and none may enter its next block or has its crew as the only reason");
        LineDispatcher x = CHECK.line("L5,5;S1:1;T0>2p1@0;T1>2p1@0h4");
        ahead(x, 1, 3, 1);
        ahead(x, 500, 3, 1);
        CHECK.until(x, 3);
        CHECK.text(x, "S1:2", 1);
        ahead(x, 1, 3, 0);
        // From 9 on train 0 is in station 1, behind train 1 that has too few hours; it goes on itself.
        ahead(x, 5, 3, 0);
        ahead(x, 10, 3, 0);
        ahead(x, 11, 3, 1);
    }

    private static void noCrewAsTheOnlyReason() {
        CHECK.sentence("or has its crew as the only reason");
        // Hours for the block alone that are just enough, and one too few; train 0 leaves the block at 10.
        int[] due = {0, 1};
        String[] crews = {"h9", "h8"};
        for (int i = 0; i < due.length; i++) {
            LineDispatcher x = CHECK.line("L9;T0>1p9@0;T0>1p1@0" + crews[i]);
            ahead(x, 9, 3, 0);
            ahead(x, 10, 3, due[i]);
        }
    }
}
