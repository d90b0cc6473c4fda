/**
 * A dispatcher for a railway line with single track.
 *
 * The document DOC.md numbers its promises; the public methods stand here in their order.
 */
public final class LineDispatcher {
    public static final int NONE = -1, BAD = -2, STATE = -3, FULL = -4;

    private static final int ABSENT = -5;
    /** A minute that no run reaches. */
    private static final int NEVER = 1000000;
    private static final int WRONG_TEXT = -100, REFUSED_COMMAND = -200;

    private static final int MOST_STATIONS = 8, MOST_BLOCKS = 7, MOST_TRAINS = 10, MOST_ORDERS = 6;
    private static final int MOST_TRACKS = 4, MOST_LENGTH = 99;
    private static final int MOST_BYTES = 60, MOST_COMMANDS = 20, MOST_SIGN = 127, MOST_FED = 5;
    /** The greatest station or block and the greatest digit that a text can name, and the digits of a number. */
    private static final int LAST_PLACE = 7, LAST_DIGIT = 9, MOST_DIGITS = 4;
    private static final int MOST_MINUTES = 500, LAST_MINUTE = 9999, MOST_RELIEF = 60;

    /** What holds as long as no call says anything else. */
    private static final int FIRST_BOUND = 60, FIRST_RELIEF = 10, FIRST_TRACKS = 2, USUAL_HOURS = 480;

    private static final int OUTSIDE = 0, WAITING = 1, RUNNING = 2, RESTING = 3, ENDED = 4, REMOVED = 5;
    private static final int ARRIVAL = 0, DEPARTURE = 1;

    /** The answers of why. */
    private static final int WHY_NOT_STANDING = 0, WHY_NOT_IN_YET = 1, WHY_NO_FIRST_TRACK = 2, WHY_RELIEF = 3,
            WHY_BLOCK_TAKEN = 4, WHY_NO_TRACK = 5, WHY_CREW = 6, WHY_RIVAL = 7, WHY_MAY_RUN = 8;

    /** The reasons with which a text is refused. */
    private static final int REASON_TEXT = 0, REASON_NO_LINE = 1, REASON_PLACE = 2, REASON_LIMIT = 3,
            REASON_NUMBER = 4;

    private final Tape tape;
    private final Refusal latest;
    private final Clerk clerk;
    private final Plan planned;
    private final Line now;
    private final Line saved;
    /** Holds what would be, for plan and ahead, and what was, while a text is carried out. */
    private final Line aside;
    private boolean hasSaved;

    public LineDispatcher() {
        tape = new Tape();
        latest = new Refusal();
        clerk = new Clerk();
        planned = new Plan();
        now = new Line();
        saved = new Line();
        aside = new Line();
        hasSaved = false;
    }

    public int feed(int n, int a, int b, int c, int d, int e) {
        boolean allBytes = isByte(a) && isByte(b) && isByte(c) && isByte(d) && isByte(e);
        if (n < 1 || n > MOST_FED || !allBytes) return BAD;
        if (tape.length + n > MOST_BYTES) return FULL;
        tape.append(a);
        if (n >= 2) tape.append(b);
        if (n >= 3) tape.append(c);
        if (n >= 4) tape.append(d);
        if (n >= 5) tape.append(e);
        return tape.length;
    }

    public int execute() {
        int answer;
        if (tape.readText()) {
            answer = carryOutCommands();
        } else {
            latest.keep(tape.at, REASON_TEXT, tape.peek());
            answer = WRONG_TEXT - tape.at;
        }
        tape.length = 0;
        return answer;
    }

    public int refusal(int level) {
        return latest.numberAt(level);
    }

    public int relief(int minutes) {
        if (minutes < 0 || minutes > MOST_RELIEF) return BAD;
        int previous = now.reliefMinutes;
        now.reliefMinutes = minutes;
        return previous;
    }

    public int cancel(int train) {
        Train found = now.trainWith(train);
        if (found == null || found.state == REMOVED) return NONE;
        if (found.state != OUTSIDE) return 0;
        found.changeTo(REMOVED, now.time);
        return 1;
    }

    public int lift(int order) {
        if (order < 0 || order >= now.orderCount) return NONE;
        now.removeOrder(order);
        return now.orderCount;
    }

    public int pass(int n) {
        if (!now.exists()) return STATE;
        if (!isMinutes(n)) return BAD;
        if (now.time + n > LAST_MINUTE) return FULL;
        now.advance(n);
        return now.time;
    }

    public int train(int train, int what) {
        Train found = now.trainWith(train);
        if (found == null) return NONE;
        return found.property(what);
    }

    public int station(int station, int what) {
        if (!now.exists()) return STATE;
        if (!now.hasStation(station)) return NONE;
        switch (what) {
            case 0: return now.stops[station].tracks;
            case 1: return now.takenTracks(station);
            case 2: return now.stops[station].givesRelief ? 1 : 0;
            case 3: return now.trainsIn(station);
            case 4: return now.stops[station].comings;
            default: return NONE;
        }
    }

    public int block(int block, int what) {
        if (!now.exists()) return STATE;
        if (!now.hasBlock(block)) return NONE;
        switch (what) {
            case 0: return now.sections[block].length;
            case 1: return now.occupant(block);
            case 2: return now.slowMinutes(block);
            case 3: return now.sections[block].takenMinutes;
            case 4: return now.sections[block].entries;
            default: return NONE;
        }
    }

    public int why(int train, int what) {
        Train found = now.trainWith(train);
        if (found == null || what < 0 || what > 1) return NONE;
        int reason = now.reasonFor(found);
        return what == 0 ? reason : now.numberFor(found, reason);
    }

    public int order(int i) {
        now.rank();
        if (i == -1) return now.rankedCount;
        if (i < 0 || i >= now.rankedCount) return NONE;
        return now.ranking[i];
    }

    public int plan(int n) {
        if (!now.exists()) return STATE;
        if (!isMinutes(n)) return BAD;
        aside.copyFrom(now);
        aside.advance(n);
        return planned.make(aside, now.time, n);
    }

    public int timetable(int train, int station, int what) {
        Train found = now.trainWith(train);
        if (found == null || !now.hasStation(station) || !isKind(what)) return NONE;
        int happened = found.minutes[what][station];
        return happened != ABSENT ? happened : planned.minuteFor(train, what, station);
    }

    public int drift() {
        return planned.isMade ? planned.deviations(now) : ABSENT;
    }

    public int ahead(int n, int what) {
        if (!now.exists()) return STATE;
        if (!isMinutes(n)) return BAD;
        if (what < 0 || what > 3) return NONE;
        aside.copyFrom(now);
        aside.advance(n);
        switch (what) {
            case 0: return aside.trainsThatAre(ENDED);
            case 1: return aside.trainsThatAre(RUNNING);
            case 2: return aside.allWaiting();
            default: return aside.isQuiet() ? 1 : 0;
        }
    }

    public int held(int block, int minute) {
        if (!now.exists()) return STATE;
        if (!now.hasBlock(block)) return NONE;
        if (minute < 0 || minute > now.time) return BAD;
        return now.holder(block, minute);
    }

    public int conflicts() {
        int pairs = 0;
        for (int block = 0; block < MOST_BLOCKS; block++) {
            if (now.hasBlock(block)) pairs += now.conflictsIn(block);
        }
        return pairs;
    }

    public int account(int train, int what) {
        Train found = now.trainWith(train);
        if (found == null || found.state == REMOVED) return NONE;
        switch (what) {
            case 0: return found.spent[OUTSIDE];
            case 1: return found.spent[RUNNING];
            case 2: return found.spent[RESTING];
            case 3: return found.spent[WAITING];
            case 4: return found.allSpent();
            case 5: return now.minutesOfWay(found);
            default: return NONE;
        }
    }

    public int image() {
        saved.copyFrom(now);
        hasSaved = true;
        return now.time;
    }

    public int undo() {
        if (!hasSaved) return STATE;
        now.copyFrom(saved);
        planned.isMade = false;
        return now.time;
    }

    public int count(int what) {
        switch (what) {
            case 0: return now.time;
            case 1: return now.stationCount;
            case 2: return now.trainCount;
            case 3: return now.trainsThatAre(OUTSIDE);
            case 4: return now.trainsThatAre(ENDED);
            case 5: return now.orderCount;
            case 6: return now.bound;
            case 7: return tape.length;
            case 8: return now.reliefMinutes;
            case 9: return now.longestStay();
            default: return NONE;
        }
    }

    private static boolean isByte(int sign) {
        return sign >= 0 && sign <= MOST_SIGN;
    }

    private static boolean isMinutes(int n) {
        return n >= 1 && n <= MOST_MINUTES;
    }

    private static boolean isKind(int what) {
        return what == ARRIVAL || what == DEPARTURE;
    }

    private int carryOutCommands() {
        boolean newLine = false;
        aside.copyFrom(now);
        for (int i = 0; i < tape.commandCount; i++) {
            Command command = tape.commands[i];
            if (clerk.refuses(now, command)) {
                now.copyFrom(aside);
                latest.keep(i, clerk.reason, clerk.told);
                return REFUSED_COMMAND - i;
            }
            clerk.carryOut(now, command);
            if (command.kind == 'L') newLine = true;
        }
        if (newLine) planned.isMade = false;
        latest.isKept = false;
        return tape.commandCount;
    }

    /** A train with its way, its crew, its accounts and its minutes at the stations. */
    private static final class Train {
        int number, state, first, last, priority, ready, extra, hours, reliefs;
        /** The station or block, ABSENT in the states without one. */
        int place;
        /** The station to which the block leads, while the train runs. */
        int heading;
        /** The minute at which the state began. */
        int since;
        /** The minute at which a block or a relief will have passed, ABSENT in other states. */
        int until;
        /** The minute of coming into the present station; a relief there does not begin it anew. */
        int cameIn;
        /** The minute at which the crew began, ABSENT while there is no crew. */
        int crewSince;
        /** The minutes spent in each of the states OUTSIDE to RESTING. */
        final int[] spent = new int[4];
        /** For ARRIVAL and DEPARTURE, the minute at each station, or ABSENT. */
        final int[][] minutes = new int[2][MOST_STATIONS];

        /** Makes this the train of the command, which is outside still. */
        void begin(Command command) {
            first = command.place;
            last = command.goal;
            priority = command.digit;
            ready = command.minute;
            extra = command.extra;
            hours = command.hours;
            reliefs = 0;
            cameIn = ABSENT;
            heading = ABSENT;
            changeTo(OUTSIDE, ready);
            for (int i = 0; i < spent.length; i++) spent[i] = 0;
            for (int i = 0; i < MOST_STATIONS; i++) {
                minutes[ARRIVAL][i] = ABSENT;
                minutes[DEPARTURE][i] = ABSENT;
            }
        }

        /** Changes to a state without place, end and crew. */
        void changeTo(int newState, int minute) {
            state = newState;
            since = minute;
            place = ABSENT;
            until = ABSENT;
            crewSince = ABSENT;
        }

        void copyFrom(Train other) {
            number = other.number;
            state = other.state;
            first = other.first;
            last = other.last;
            priority = other.priority;
            ready = other.ready;
            extra = other.extra;
            hours = other.hours;
            reliefs = other.reliefs;
            place = other.place;
            heading = other.heading;
            since = other.since;
            until = other.until;
            cameIn = other.cameIn;
            crewSince = other.crewSince;
            System.arraycopy(other.spent, 0, spent, 0, spent.length);
            System.arraycopy(other.minutes[ARRIVAL], 0, minutes[ARRIVAL], 0, MOST_STATIONS);
            System.arraycopy(other.minutes[DEPARTURE], 0, minutes[DEPARTURE], 0, MOST_STATIONS);
        }

        int property(int what) {
            switch (what) {
                case 0: return state;
                case 1: return place;
                case 2: return priority;
                case 3: return ready;
                case 4: return extra;
                case 5: return hours;
                case 6: return since;
                case 7: return until;
                case 8: return crewSince;
                case 9: return reliefs;
                default: return NONE;
            }
        }

        boolean isInStation() {
            return state == WAITING || state == RESTING;
        }

        /** Whether its next minute counts: it is on the line, or waits outside and is ready. */
        boolean isCounted(int minute) {
            if (state == OUTSIDE) return ready <= minute;
            return state == WAITING || state == RUNNING || state == RESTING;
        }

        /** The block ahead of a train in a station. */
        int nextBlock() {
            return last > first ? place : place - 1;
        }

        /** The station behind the block ahead of a train in a station. */
        int nextStation() {
            return last > first ? place + 1 : place - 1;
        }

        boolean takesTrackOf(int station) {
            if (state == RUNNING) return station == heading && station != last;
            return place == station && (state == WAITING || state == RESTING);
        }

        /** The minute at which it entered the block, or ABSENT. */
        int entered(int block) {
            int from = last > first ? block : block + 1;
            return from < 0 || from >= MOST_STATIONS ? ABSENT : minutes[DEPARTURE][from];
        }

        /** The first minute at which it does not hold a block any more that it entered. */
        int left(int block) {
            int to = last > first ? block + 1 : block;
            if (to < 0 || to >= MOST_STATIONS) return ABSENT;
            return minutes[ARRIVAL][to] == ABSENT ? NEVER : minutes[ARRIVAL][to];
        }

        void note(int kind, int station, int minute) {
            if (station < 0 || station >= MOST_STATIONS) return;
            minutes[kind][station] = minute;
        }

        int allSpent() {
            int sum = 0;
            for (int i = 0; i < spent.length; i++) sum += spent[i];
            return sum;
        }
    }

    /** A station. */
    private static final class Stop {
        int tracks;
        boolean givesRelief;
        int comings;

        void copyFrom(Stop other) {
            tracks = other.tracks;
            givesRelief = other.givesRelief;
            comings = other.comings;
        }
    }

    /** A block. */
    private static final class Section {
        int length;
        int takenMinutes;
        int entries;

        void copyFrom(Section other) {
            length = other.length;
            takenMinutes = other.takenMinutes;
            entries = other.entries;
        }
    }

    /** A slow order for the trains that enter its block at its minutes. */
    private static final class SlowOrder {
        int block;
        int minutes;
        int begin;
        int end;

        void copyFrom(SlowOrder other) {
            block = other.block;
            minutes = other.minutes;
            begin = other.begin;
            end = other.end;
        }
    }

    /** All that a snapshot contains: the line, its trains, its slow orders, the parameters and the time. */
    private static final class Line {
        int time = 0;
        int bound = FIRST_BOUND;
        int reliefMinutes = FIRST_RELIEF;
        int stationCount = 0;
        int trainCount = 0;
        int orderCount = 0;
        final Stop[] stops = new Stop[MOST_STATIONS];
        final Section[] sections = new Section[MOST_BLOCKS];
        final Train[] trains = new Train[MOST_TRAINS];
        final SlowOrder[] orders = new SlowOrder[MOST_ORDERS];
        /** The order of dispatching as rank() has found it last. */
        final int[] ranking = new int[MOST_TRAINS];
        int rankedCount = 0;

        Line() {
            for (int i = 0; i < MOST_STATIONS; i++) stops[i] = new Stop();
            for (int i = 0; i < MOST_BLOCKS; i++) sections[i] = new Section();
            for (int i = 0; i < MOST_ORDERS; i++) orders[i] = new SlowOrder();
            for (int i = 0; i < MOST_TRAINS; i++) {
                trains[i] = new Train();
                trains[i].number = i;
            }
        }

        void copyFrom(Line other) {
            time = other.time;
            bound = other.bound;
            reliefMinutes = other.reliefMinutes;
            stationCount = other.stationCount;
            trainCount = other.trainCount;
            orderCount = other.orderCount;
            for (int i = 0; i < MOST_STATIONS; i++) stops[i].copyFrom(other.stops[i]);
            for (int i = 0; i < MOST_BLOCKS; i++) sections[i].copyFrom(other.sections[i]);
            for (int i = 0; i < MOST_ORDERS; i++) orders[i].copyFrom(other.orders[i]);
            for (int i = 0; i < MOST_TRAINS; i++) trains[i].copyFrom(other.trains[i]);
        }

        boolean exists() {
            return stationCount > 0;
        }

        boolean hasStation(int station) {
            return station >= 0 && station < stationCount && station < MOST_STATIONS;
        }

        boolean hasBlock(int block) {
            return block >= 0 && block < stationCount - 1 && block < MOST_BLOCKS;
        }

        /** The train with this number, or null. */
        Train trainWith(int train) {
            return train >= 0 && train < trainCount && train < MOST_TRAINS ? trains[train] : null;
        }

        void removeOrder(int order) {
            for (int i = order; i + 1 < orderCount; i++) orders[i].copyFrom(orders[i + 1]);
            orderCount--;
        }

        void advance(int passing) {
            for (int i = 0; i < passing; i++) {
                countMinute();
                time++;
                endRuns();
                admitTrains();
                endReliefs();
                dispatchTrains();
            }
        }

        /** Counts the minute that begins now, in the accounts and for the blocks. */
        void countMinute() {
            for (int i = 0; i < trainCount; i++) {
                Train train = trains[i];
                if (train.isCounted(time)) train.spent[train.state]++;
                if (train.state == RUNNING && hasBlock(train.place)) sections[train.place].takenMinutes++;
            }
        }

        void endRuns() {
            for (int i = 0; i < trainCount; i++) {
                Train train = trains[i];
                if (train.state == RUNNING && train.until <= time) bringInto(train, train.heading);
            }
        }

        void admitTrains() {
            for (int i = 0; i < trainCount; i++) {
                Train train = trains[i];
                if (train.state == OUTSIDE && train.ready <= time && hasFreeTrack(train.first)) {
                    train.crewSince = time;
                    bringInto(train, train.first);
                }
            }
        }

        void bringInto(Train train, int station) {
            if (!hasStation(station)) return;
            stops[station].comings++;
            train.note(ARRIVAL, station, time);
            if (station == train.last) {
                train.changeTo(ENDED, time);
                return;
            }
            train.state = WAITING;
            train.since = time;
            train.place = station;
            train.until = ABSENT;
            train.cameIn = time;
        }

        void endReliefs() {
            for (int i = 0; i < trainCount; i++) {
                Train train = trains[i];
                if (train.state == RESTING && train.until <= time) {
                    train.state = WAITING;
                    train.since = time;
                    train.until = ABSENT;
                    train.crewSince = time;
                }
            }
        }

        void dispatchTrains() {
            rank();
            for (int i = 0; i < rankedCount; i++) {
                Train train = trains[ranking[i]];
                int obstacle = obstacleOf(train);
                if (obstacle == WHY_MAY_RUN) {
                    enter(train, train.nextBlock());
                } else if (isCrewAlone(train, obstacle)) {
                    beginRelief(train);
                }
            }
        }

        void enter(Train train, int block) {
            if (!hasBlock(block)) return;
            int needed = minutesFor(train, block);
            sections[block].entries++;
            train.note(DEPARTURE, train.place, time);
            train.heading = train.nextStation();
            train.state = RUNNING;
            train.since = time;
            train.place = block;
            train.until = time + needed;
        }

        void beginRelief(Train train) {
            if (!hasStation(train.place)) return;
            int lasting = stops[train.place].givesRelief ? reliefMinutes : 3 * reliefMinutes;
            train.state = RESTING;
            train.since = time;
            // A relief of 0 minutes ends at the next minute all the same.
            train.until = time + Math.max(1, lasting);
            train.crewSince = ABSENT;
            train.reliefs++;
        }

        /** Puts the trains that wait in stations into the order of dispatching. */
        void rank() {
            rankedCount = 0;
            for (int i = 0; i < trainCount; i++) {
                if (trains[i].state != WAITING) continue;
                int at = rankedCount;
                for (; at > 0 && isAhead(trains[i], trains[ranking[at - 1]]); at--) ranking[at] = ranking[at - 1];
                ranking[at] = i;
                rankedCount++;
            }
        }

        boolean isAhead(Train one, Train other) {
            boolean oneIsLate = time - one.cameIn >= bound;
            boolean otherIsLate = time - other.cameIn >= bound;
            if (oneIsLate != otherIsLate) return oneIsLate;
            if (one.priority != other.priority) return one.priority > other.priority;
            if (one.cameIn != other.cameIn) return one.cameIn < other.cameIn;
            return one.number < other.number;
        }

        /** What keeps a train that waits in a station from its next block, or WHY_MAY_RUN. */
        int obstacleOf(Train train) {
            int next = train.nextStation();
            if (occupant(train.nextBlock()) != ABSENT) return WHY_BLOCK_TAKEN;
            if (next != train.last && !hasFreeTrack(next)) return WHY_NO_TRACK;
            return overHours(train) > 0 ? WHY_CREW : WHY_MAY_RUN;
        }

        boolean isCrewAlone(Train train, int obstacle) {
            return obstacle == WHY_CREW && minutesFor(train, train.nextBlock()) <= train.hours;
        }

        /** The minutes that the crew of a train in a station would be above its hours behind the next block. */
        int overHours(Train train) {
            return time - train.crewSince + minutesFor(train, train.nextBlock()) - train.hours;
        }

        /** The minutes that a train needs for a block that it enters now. */
        int minutesFor(Train train, int block) {
            if (!hasBlock(block)) return 0;
            return sections[block].length + train.extra + slowMinutes(block);
        }

        int slowMinutes(int block) {
            int sum = 0;
            for (int i = 0; i < orderCount; i++) {
                SlowOrder slow = orders[i];
                if (slow.block == block && slow.begin <= time && time < slow.end) sum += slow.minutes;
            }
            return sum;
        }

        /** The train in a block, or ABSENT. */
        int occupant(int block) {
            for (int i = 0; i < trainCount; i++) {
                if (trains[i].state == RUNNING && trains[i].place == block) return i;
            }
            return ABSENT;
        }

        int takenTracks(int station) {
            int taken = 0;
            for (int i = 0; i < trainCount; i++) {
                if (trains[i].takesTrackOf(station)) taken++;
            }
            return taken;
        }

        boolean hasFreeTrack(int station) {
            return hasStation(station) && takenTracks(station) < stops[station].tracks;
        }

        /** The trains in a station, bit t for the train t. */
        int trainsIn(int station) {
            int bits = 0;
            for (int i = 0; i < trainCount; i++) {
                if (trains[i].isInStation() && trains[i].place == station) bits |= 1 << i;
            }
            return bits;
        }

        int trainsThatAre(int state) {
            int found = 0;
            for (int i = 0; i < trainCount; i++) {
                if (trains[i].state == state) found++;
            }
            return found;
        }

        int longestStay() {
            int longest = 0;
            for (int i = 0; i < trainCount; i++) {
                if (trains[i].isInStation()) longest = Math.max(longest, time - trains[i].cameIn);
            }
            return longest;
        }

        int allWaiting() {
            int sum = 0;
            for (int i = 0; i < trainCount; i++) sum += trains[i].spent[WAITING];
            return sum;
        }

        /** Whether nothing goes on, and nothing would begin at the present minute. */
        boolean isQuiet() {
            for (int i = 0; i < trainCount; i++) {
                Train train = trains[i];
                if (train.state == RUNNING || train.state == RESTING) return false;
                if (train.state == OUTSIDE && (train.ready > time || hasFreeTrack(train.first))) return false;
                if (train.state != WAITING) continue;
                int obstacle = obstacleOf(train);
                if (obstacle == WHY_MAY_RUN || isCrewAlone(train, obstacle)) return false;
            }
            return true;
        }

        int reasonFor(Train train) {
            switch (train.state) {
                case OUTSIDE:
                    return train.ready <= time && !hasFreeTrack(train.first) ? WHY_NO_FIRST_TRACK : WHY_NOT_IN_YET;
                case RESTING:
                    return WHY_RELIEF;
                case WAITING:
                    int obstacle = obstacleOf(train);
                    return obstacle == WHY_MAY_RUN && rivalOf(train) != ABSENT ? WHY_RIVAL : obstacle;
                default:
                    return WHY_NOT_STANDING;
            }
        }

        /** The number that goes with the reason for which a train does not run. */
        int numberFor(Train train, int reason) {
            switch (reason) {
                case WHY_NOT_IN_YET: return Math.max(0, train.ready - time);
                case WHY_NO_FIRST_TRACK: return train.first;
                case WHY_RELIEF: return Math.max(0, train.until - time);
                case WHY_BLOCK_TAKEN: return occupant(train.nextBlock());
                case WHY_NO_TRACK: return train.nextStation();
                case WHY_CREW: return overHours(train);
                case WHY_RIVAL: return rivalOf(train);
                default: return ABSENT;
            }
        }

        /** The first train ahead of this one that may enter the same block now, or ABSENT. */
        int rivalOf(Train train) {
            rank();
            for (int i = 0; i < rankedCount; i++) {
                Train other = trains[ranking[i]];
                if (other.number == train.number) return ABSENT;
                if (other.nextBlock() == train.nextBlock() && obstacleOf(other) == WHY_MAY_RUN) return other.number;
            }
            return ABSENT;
        }

        /** The lowest train that held a block at a minute, or ABSENT. */
        int holder(int block, int minute) {
            for (int i = 0; i < trainCount; i++) {
                int entered = trains[i].entered(block);
                if (entered != ABSENT && entered <= minute && minute < trains[i].left(block)) return i;
            }
            return ABSENT;
        }

        int conflictsIn(int block) {
            int pairs = 0;
            for (int i = 0; i < trainCount; i++) {
                for (int j = 0; j < i; j++) {
                    if (isConflict(trains[i], trains[j], block)) pairs++;
                }
            }
            return pairs;
        }

        boolean isConflict(Train one, Train other, int block) {
            int begin = one.entered(block);
            int otherBegin = other.entered(block);
            if (begin == ABSENT || otherBegin == ABSENT) return false;
            return Math.max(begin, otherBegin) < Math.min(one.left(block), other.left(block));
        }

        /** The minutes for the whole way without waiting, reliefs and slow orders. */
        int minutesOfWay(Train train) {
            int sum = 0;
            int begin = Math.min(train.first, train.last);
            int end = Math.max(train.first, train.last);
            for (int block = begin; block < end; block++) {
                if (hasBlock(block)) sum += sections[block].length + train.extra;
            }
            return sum;
        }
    }

    /** The arrivals and departures that were to come when it was made. */
    private static final class Plan {
        boolean isMade = false;
        int madeAt;
        int lastMinute;
        /** Two rows for each train, ARRIVAL and DEPARTURE; ABSENT stands for nothing planned. */
        final int[][] rows = new int[2 * MOST_TRAINS][MOST_STATIONS];

        /** Takes over what a line that has been moved on did after the present; returns how much. */
        int make(Line later, int present, int minutes) {
            isMade = true;
            madeAt = present;
            lastMinute = present + minutes;
            int entries = 0;
            for (int i = 0; i < MOST_TRAINS; i++) {
                Train train = later.trainWith(i);
                entries += takeRow(train, i, ARRIVAL) + takeRow(train, i, DEPARTURE);
            }
            return entries;
        }

        int takeRow(Train train, int number, int kind) {
            int[] row = rows[2 * number + kind];
            int entries = 0;
            for (int station = 0; station < MOST_STATIONS; station++) {
                boolean comes = train != null && train.minutes[kind][station] > madeAt;
                row[station] = comes ? train.minutes[kind][station] : ABSENT;
                if (comes) entries++;
            }
            return entries;
        }

        int minuteFor(int train, int kind, int station) {
            return isMade ? rows[2 * train + kind][station] : ABSENT;
        }

        int deviations(Line line) {
            int found = 0;
            for (int i = 0; i < line.trainCount; i++) {
                for (int station = 0; station < MOST_STATIONS; station++) {
                    Train train = line.trains[i];
                    if (deviates(rows[2 * i + ARRIVAL][station], train.minutes[ARRIVAL][station], line.time)) found++;
                    if (deviates(rows[2 * i + DEPARTURE][station], train.minutes[DEPARTURE][station], line.time)) found++;
                }
            }
            return found;
        }

        boolean deviates(int due, int happened, int present) {
            boolean wasDue = due != ABSENT && due <= present;
            boolean hasCome = happened > madeAt && happened <= lastMinute;
            return (wasDue || hasCome) && due != happened;
        }
    }

    /** A command as it was read. */
    private static final class Command {
        /** The letter with which it begins. */
        int kind;
        /** The station or block, and the second station of a train. */
        int place, goal;
        /** The tracks or the priority. */
        int digit;
        /** The ready minute, or the first minute of a slow order. */
        int minute;
        int extra, hours;
        /** The minutes of a slow order, or the waiting bound. */
        int amount;
        int end;
        boolean givesRelief;
        final int[] lengths = new int[MOST_BLOCKS];
        int lengthCount;
    }

    /** The bytes that were fed, and the commands that were read from them. */
    private static final class Tape {
        final int[] bytes = new int[MOST_BYTES];
        int length = 0;
        final Command[] commands = new Command[MOST_COMMANDS];
        int commandCount = 0;
        /** The byte that is read next; where no text can continue with it, the error position. */
        int at = 0;

        Tape() {
            for (int i = 0; i < MOST_COMMANDS; i++) commands[i] = new Command();
        }

        void append(int sign) {
            if (length < 0 || length >= MOST_BYTES) return;
            bytes[length] = sign;
            length++;
        }

        /** Reads the text into commands; false if it is wrong. */
        boolean readText() {
            at = 0;
            commandCount = 0;
            for (int i = 0; i < MOST_COMMANDS; i++) {
                if (!readCommand(commands[i])) return false;
                commandCount = i + 1;
                if (at == length) return true;
                if (!take(';')) return false;
            }
            return false;
        }

        boolean readCommand(Command command) {
            command.kind = peek();
            switch (command.kind) {
                case 'L': at++; return readLengths(command);
                case 'S': at++; return readStation(command);
                case 'T': at++; return readTrain(command);
                case 'O': at++; return readOrder(command);
                case 'W': at++; return readBound(command);
                default: return false;
            }
        }

        boolean readLengths(Command command) {
            for (int i = 0; i < MOST_BLOCKS; i++) {
                command.lengths[i] = readNumber();
                command.lengthCount = i + 1;
                if (command.lengths[i] < 0) return false;
                // An eighth number is wrong at its comma, so the comma behind the seventh is left.
                if (i + 1 == MOST_BLOCKS || !take(',')) return true;
            }
            return true;
        }

        boolean readStation(Command command) {
            command.place = readDigit(LAST_PLACE);
            if (command.place < 0 || !take(':')) return false;
            command.digit = readDigit(LAST_DIGIT);
            if (command.digit < 0) return false;
            command.givesRelief = take('r');
            return true;
        }

        boolean readTrain(Command command) {
            command.place = readDigit(LAST_PLACE);
            if (command.place < 0 || !take('>')) return false;
            command.goal = readDigit(LAST_PLACE);
            if (command.goal < 0 || !take('p')) return false;
            command.digit = readDigit(LAST_DIGIT);
            if (command.digit < 0 || !take('@')) return false;
            command.minute = readNumber();
            if (command.minute < 0) return false;
            command.extra = take('+') ? readDigit(LAST_DIGIT) : 0;
            if (command.extra < 0) return false;
            command.hours = take('h') ? readNumber() : USUAL_HOURS;
            return command.hours >= 0;
        }

        boolean readOrder(Command command) {
            command.place = readDigit(LAST_PLACE);
            if (command.place < 0 || !take('+')) return false;
            command.amount = readNumber();
            if (command.amount < 0 || !take('@')) return false;
            command.minute = readNumber();
            if (command.minute < 0 || !take('-')) return false;
            command.end = readNumber();
            return command.end >= 0;
        }

        boolean readBound(Command command) {
            command.amount = readNumber();
            return command.amount >= 0;
        }

        /** The byte that is read next, -1 at the end of the text. */
        int peek() {
            return at >= 0 && at < length && at < MOST_BYTES ? bytes[at] : -1;
        }

        boolean take(int sign) {
            if (peek() != sign) return false;
            at++;
            return true;
        }

        /** A digit from 0 to the greatest, or -1 if there is none. */
        int readDigit(int greatest) {
            int value = peek() - '0';
            if (value < 0 || value > greatest) return -1;
            at++;
            return value;
        }

        /** A number, or -1 if there is none. */
        int readNumber() {
            int value = readDigit(LAST_DIGIT);
            if (value <= 0) return value;
            for (int i = 1; i < MOST_DIGITS; i++) {
                int next = readDigit(LAST_DIGIT);
                if (next < 0) return value;
                value = 10 * value + next;
            }
            return value;
        }
    }

    /** Looks at commands before they are carried out, and carries them out. */
    private static final class Clerk {
        /** Why the latest command was refused, and the number told with that. */
        int reason, told;

        boolean refuses(Line line, Command command) {
            switch (command.kind) {
                case 'L': return refusesLengths(command);
                case 'S': return refusesStation(line, command);
                case 'T': return refusesTrain(line, command);
                case 'O': return refusesOrder(line, command);
                default: return command.amount == 0 && refuse(REASON_NUMBER, 0);
            }
        }

        boolean refuse(int why, int number) {
            reason = why;
            told = number;
            return true;
        }

        boolean refusesLengths(Command command) {
            for (int i = 0; i < command.lengthCount; i++) {
                int length = command.lengths[i];
                if (length < 1 || length > MOST_LENGTH) return refuse(REASON_NUMBER, length);
            }
            return false;
        }

        boolean refusesStation(Line line, Command command) {
            if (!line.exists()) return refuse(REASON_NO_LINE, ABSENT);
            if (!line.hasStation(command.place)) return refuse(REASON_PLACE, command.place);
            boolean isRange = command.digit >= 1 && command.digit <= MOST_TRACKS;
            if (isRange && command.digit >= line.takenTracks(command.place)) return false;
            return refuse(REASON_NUMBER, command.digit);
        }

        boolean refusesTrain(Line line, Command command) {
            if (!line.exists()) return refuse(REASON_NO_LINE, ABSENT);
            if (!line.hasStation(command.place)) return refuse(REASON_PLACE, command.place);
            if (!line.hasStation(command.goal)) return refuse(REASON_PLACE, command.goal);
            if (line.trainCount >= MOST_TRAINS) return refuse(REASON_LIMIT, MOST_TRAINS);
            if (command.goal == command.place) return refuse(REASON_NUMBER, command.goal);
            if (command.minute < line.time) return refuse(REASON_NUMBER, command.minute);
            return command.hours == 0 && refuse(REASON_NUMBER, 0);
        }

        boolean refusesOrder(Line line, Command command) {
            if (!line.exists()) return refuse(REASON_NO_LINE, ABSENT);
            if (!line.hasBlock(command.place)) return refuse(REASON_PLACE, command.place);
            if (line.orderCount >= MOST_ORDERS) return refuse(REASON_LIMIT, MOST_ORDERS);
            return command.end <= command.minute && refuse(REASON_NUMBER, command.end);
        }

        /** Carries out a command that is not refused. */
        void carryOut(Line line, Command command) {
            switch (command.kind) {
                case 'L': makeLine(line, command); break;
                case 'S': changeStation(line, command); break;
                case 'T': addTrain(line, command); break;
                case 'O': addOrder(line, command); break;
                default: line.bound = command.amount;
            }
        }

        void makeLine(Line line, Command command) {
            line.stationCount = command.lengthCount + 1;
            line.trainCount = 0;
            line.orderCount = 0;
            for (int i = 0; i < MOST_STATIONS; i++) {
                line.stops[i].tracks = FIRST_TRACKS;
                line.stops[i].givesRelief = false;
                line.stops[i].comings = 0;
            }
            for (int i = 0; i < MOST_BLOCKS; i++) {
                line.sections[i].length = command.lengths[i];
                line.sections[i].takenMinutes = 0;
                line.sections[i].entries = 0;
            }
        }

        void changeStation(Line line, Command command) {
            if (!line.hasStation(command.place)) return;
            line.stops[command.place].tracks = command.digit;
            line.stops[command.place].givesRelief = command.givesRelief;
        }

        void addTrain(Line line, Command command) {
            if (line.trainCount < 0 || line.trainCount >= MOST_TRAINS) return;
            line.trains[line.trainCount].begin(command);
            line.trainCount++;
        }

        void addOrder(Line line, Command command) {
            if (line.orderCount < 0 || line.orderCount >= MOST_ORDERS) return;
            SlowOrder added = line.orders[line.orderCount];
            added.block = command.place;
            added.minutes = command.amount;
            added.begin = command.minute;
            added.end = command.end;
            line.orderCount++;
        }
    }

    /** The chain of causes for which the latest text was not carried out. */
    private static final class Refusal {
        boolean isKept = false;
        final int[] chain = new int[3];

        void keep(int told, int reason, int cause) {
            isKept = true;
            chain[0] = told;
            chain[1] = reason;
            chain[2] = cause;
        }

        int numberAt(int level) {
            if (level < 0 || level >= chain.length) return NONE;
            return isKept ? chain[level] : ABSENT;
        }
    }
}
