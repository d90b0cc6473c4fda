import java.util.ArrayList;
import java.util.Arrays;
import java.util.Comparator;
import java.util.HashMap;
import java.util.HashSet;
import java.util.List;
import java.util.Map;
import java.util.Set;
import java.util.regex.Matcher;
import java.util.regex.Pattern;

/**
 * The document a second time, for random runs: written from its words with the Java library, by
 * recording what happens and answering from the records, where the program keeps sums.
 */
final class Model {
    private static final String NUMBER = "(?:0|[1-9][0-9]{0,3})";
    private static final String COMMAND = "(?:L" + NUMBER + "(?:," + NUMBER + "){0,6}"
            + "|S[0-7]:[0-9]r?"
            + "|T[0-7]>[0-7]p[0-9]@" + NUMBER + "(?:\\+[0-9])?(?:h" + NUMBER + ")?"
            + "|O[0-7]\\+" + NUMBER + "@" + NUMBER + "-" + NUMBER
            + "|W" + NUMBER + ")";
    private static final Pattern TEXT = Pattern.compile(COMMAND + "(?:;" + COMMAND + ")*");
    private static final Pattern STATION = Pattern.compile("S(.):(.)(r?)");
    private static final Pattern TRAIN = Pattern.compile("T(.)>(.)p(.)@(\\d+)(?:\\+(\\d))?(?:h(\\d+))?");
    private static final Pattern ORDER = Pattern.compile("O(.)\\+(\\d+)@(\\d+)-(\\d+)");

    private static final class Refused extends Exception {
        private static final long serialVersionUID = 1;
        final int reason;
        final int told;

        Refused(int reason, int told) {
            super("refused");
            this.reason = reason;
            this.told = told;
        }
    }

    private static final class Way {
        int from, to, priority, ready, extra, hours, state, place = -5, since, until = -5, crew = -5, reliefs, came;
        Map<Integer, Integer> arrivals = new HashMap<>();
        Map<Integer, Integer> departures = new HashMap<>();
        /** The state and the place of each minute, 16 * (state + 1) + place; 0 where none is recorded. */
        int[] records = {};

        Way copy() {
            Way w = new Way();
            w.from = from; w.to = to; w.priority = priority; w.ready = ready; w.extra = extra; w.hours = hours;
            w.state = state; w.place = place; w.since = since; w.until = until; w.crew = crew; w.reliefs = reliefs;
            w.came = came;
            w.arrivals.putAll(arrivals);
            w.departures.putAll(departures);
            w.records = records.clone();
            return w;
        }

        void record(int minute) {
            if (minute >= records.length) records = Arrays.copyOf(records, minute + 600);
            records[minute] = 16 * (state + 1) + Math.max(place, 0);
        }

        boolean was(int minute, int inState) {
            return minute < records.length && records[minute] / 16 == inState + 1;
        }

        boolean ranIn(int minute, int block) {
            return was(minute, 2) && records[minute] % 16 == block;
        }

        int step() {
            return to > from ? 1 : -1;
        }

        int blockBehind(int station) {
            return Math.min(station, station + step());
        }

        Set<Integer> stationsOnTheWay() {
            Set<Integer> stations = new HashSet<>();
            for (int s = from; s != to; s += step()) stations.add(s);
            return stations;
        }
    }

    private static final class World {
        int time, bound = 60, relief = 10;
        int[] lengths = null;
        int[] tracks = {};
        boolean[] reliefStations = {};
        List<Way> ways = new ArrayList<>();
        List<int[]> orders = new ArrayList<>();

        World copy() {
            World w = new World();
            w.time = time; w.bound = bound; w.relief = relief; w.lengths = lengths;
            w.tracks = tracks.clone();
            w.reliefStations = reliefStations.clone();
            for (Way way : ways) w.ways.add(way.copy());
            w.orders.addAll(orders);
            return w;
        }

        int stations() {
            return lengths == null ? 0 : lengths.length + 1;
        }

        boolean noStation(int s) {
            return s < 0 || s >= stations();
        }

        boolean noBlock(int b) {
            return b < 0 || b >= stations() - 1;
        }

        Set<Integer> takers(int station) {
            Set<Integer> found = new HashSet<>();
            for (int i = 0; i < ways.size(); i++) {
                Way w = ways.get(i);
                boolean there = (w.state == 1 || w.state == 3) && w.place == station;
                boolean comes = w.state == 2 && w.place + (w.step() > 0 ? 1 : 0) == station && w.to != station;
                if (there || comes) found.add(i);
            }
            return found;
        }

        boolean free(int station) {
            return takers(station).size() < tracks[station];
        }

        int inBlock(int block) {
            for (int i = 0; i < ways.size(); i++) if (ways.get(i).state == 2 && ways.get(i).place == block) return i;
            return -5;
        }

        int slow(int block) {
            return orders.stream().filter(o -> o[0] == block && o[2] <= time && time < o[3]).mapToInt(o -> o[1]).sum();
        }

        int minutes(Way w) {
            int block = w.blockBehind(w.place);
            return lengths[block] + w.extra + slow(block);
        }

        /** 4, 5, 6 as why tells them, or 8; 9 where the crew is the only reason. */
        int hindrance(Way w) {
            int next = w.place + w.step();
            if (inBlock(w.blockBehind(w.place)) >= 0) return 4;
            if (next != w.to && !free(next)) return 5;
            if (time - w.crew + minutes(w) <= w.hours) return 8;
            return minutes(w) <= w.hours ? 9 : 6;
        }

        List<Integer> dispatching() {
            List<Integer> numbers = new ArrayList<>();
            for (int i = 0; i < ways.size(); i++) if (ways.get(i).state == 1) numbers.add(i);
            Comparator<Integer> late = Comparator.comparing(i -> time - ways.get(i).came < bound);
            numbers.sort(late.thenComparing(i -> -ways.get(i).priority).thenComparing(i -> ways.get(i).came)
                    .thenComparing(i -> i));
            return numbers;
        }

        void minute() {
            for (Way w : ways) w.record(time);
            time++;
            for (Way w : ways) {
                if (w.state == 2 && w.until == time) come(w, w.place + (w.step() > 0 ? 1 : 0));
            }
            for (Way w : ways) {
                if (w.state == 0 && w.ready <= time && free(w.from)) {
                    come(w, w.from);
                    w.crew = time;
                }
            }
            for (Way w : ways) {
                if (w.state == 3 && w.until == time) {
                    w.state = 1; w.since = time; w.until = -5; w.crew = time;
                }
            }
            for (int i : dispatching()) look(ways.get(i));
        }

        void come(Way w, int station) {
            w.arrivals.put(station, time);
            w.since = time;
            w.until = -5;
            w.came = time;
            w.place = station;
            w.state = 1;
            if (station == w.to) {
                w.state = 4; w.place = -5; w.crew = -5;
            }
        }

        void look(Way w) {
            int hindrance = hindrance(w);
            if (hindrance == 8) {
                w.until = time + minutes(w);
                w.departures.put(w.place, time);
                w.place = w.blockBehind(w.place);
                w.state = 2;
                w.since = time;
            } else if (hindrance == 9) {
                int lasts = relief * (reliefStations[w.place] ? 1 : 3);
                w.state = 3;
                w.since = time;
                w.until = lasts == 0 ? time + 1 : time + lasts;
                w.crew = -5;
                w.reliefs++;
            }
        }

        /** Counts what was recorded from a train's ready minute on. */
        int spent(Way w, int state) {
            int sum = 0;
            for (int minute = w.ready; minute < time; minute++) if (w.was(minute, state)) sum++;
            return sum;
        }

        boolean held(Way w, int block, int minute) {
            return minute == time ? w.state == 2 && w.place == block : w.ranIn(minute, block);
        }

        Map<List<Integer>, Integer> minutesAfter(int minute, int last) {
            Map<List<Integer>, Integer> found = new HashMap<>();
            for (int i = 0; i < ways.size(); i++) {
                Way w = ways.get(i);
                int number = i;
                w.arrivals.forEach((s, m) -> { if (m > minute && m <= last) found.put(List.of(number, s, 0), m); });
                w.departures.forEach((s, m) -> { if (m > minute && m <= last) found.put(List.of(number, s, 1), m); });
            }
            return found;
        }
    }

    private final StringBuilder tape = new StringBuilder();
    private World now = new World();
    private World image = null;
    private int[] refusal = null;
    private Map<List<Integer>, Integer> plan = null;
    private int planFrom, planTo;

    int feed(int n, int a, int b, int c, int d, int e) {
        int[] bytes = {a, b, c, d, e};
        if (n < 1 || n > 5) return -2;
        for (int sign : bytes) if (sign < 0 || sign > 127) return -2;
        if (tape.length() + n > 60) return -4;
        for (int i = 0; i < n; i++) tape.append((char) bytes[i]);
        return tape.length();
    }

    int execute() {
        String text = tape.toString();
        tape.setLength(0);
        if (!TEXT.matcher(text).matches()) {
            int at = 0;
            while (at < text.length() && canGoOn(text.substring(0, at + 1))) at++;
            refusal = new int[] {at, 0, at < text.length() ? text.charAt(at) : -1};
            return -100 - at;
        }
        String[] commands = text.split(";");
        World after = now.copy();
        boolean made = false;
        for (int i = 0; i < commands.length; i++) {
            try {
                carryOut(after, commands[i]);
            } catch (Refused r) {
                refusal = new int[] {i, r.reason, r.told};
                return -200 - i;
            }
            made |= commands[i].startsWith("L");
        }
        now = after;
        refusal = null;
        if (made) plan = null;
        return commands.length;
    }

    private static boolean canGoOn(String beginning) {
        Matcher m = TEXT.matcher(beginning);
        return m.matches() || m.hitEnd();
    }

    private static void carryOut(World w, String command) throws Refused {
        switch (command.charAt(0)) {
            case 'L' -> makeLine(w, command.substring(1).split(","));
            case 'S' -> setStation(w, found(STATION, command));
            case 'T' -> bring(w, found(TRAIN, command));
            case 'O' -> makeOrder(w, found(ORDER, command));
            default -> {
                int bound = Integer.parseInt(command.substring(1));
                if (bound == 0) throw new Refused(4, 0);
                w.bound = bound;
            }
        }
    }

    private static Matcher found(Pattern pattern, String command) {
        Matcher m = pattern.matcher(command);
        if (!m.matches()) throw new IllegalStateException(command);
        return m;
    }

    private static void makeLine(World w, String[] lengths) throws Refused {
        int[] numbers = Arrays.stream(lengths).mapToInt(Integer::parseInt).toArray();
        for (int n : numbers) if (n < 1 || n > 99) throw new Refused(4, n);
        w.lengths = numbers;
        w.tracks = new int[numbers.length + 1];
        Arrays.fill(w.tracks, 2);
        w.reliefStations = new boolean[numbers.length + 1];
        w.ways.clear();
        w.orders.clear();
    }

    private static void setStation(World w, Matcher m) throws Refused {
        int station = Integer.parseInt(m.group(1));
        int tracks = Integer.parseInt(m.group(2));
        if (w.lengths == null) throw new Refused(1, -5);
        if (w.noStation(station)) throw new Refused(2, station);
        if (tracks < 1 || tracks > 4 || tracks < w.takers(station).size()) throw new Refused(4, tracks);
        w.tracks[station] = tracks;
        w.reliefStations[station] = !m.group(3).isEmpty();
    }

    private static void bring(World w, Matcher m) throws Refused {
        Way way = new Way();
        way.from = Integer.parseInt(m.group(1));
        way.to = Integer.parseInt(m.group(2));
        way.priority = Integer.parseInt(m.group(3));
        way.ready = Integer.parseInt(m.group(4));
        way.extra = m.group(5) == null ? 0 : Integer.parseInt(m.group(5));
        way.hours = m.group(6) == null ? 480 : Integer.parseInt(m.group(6));
        way.since = way.ready;
        if (w.lengths == null) throw new Refused(1, -5);
        if (w.noStation(way.from)) throw new Refused(2, way.from);
        if (w.noStation(way.to)) throw new Refused(2, way.to);
        if (w.ways.size() == 10) throw new Refused(3, 10);
        if (way.from == way.to) throw new Refused(4, way.to);
        if (way.ready < w.time) throw new Refused(4, way.ready);
        if (way.hours == 0) throw new Refused(4, 0);
        w.ways.add(way);
    }

    private static void makeOrder(World w, Matcher m) throws Refused {
        int[] order = new int[4];
        for (int i = 0; i < 4; i++) order[i] = Integer.parseInt(m.group(i + 1));
        if (w.lengths == null) throw new Refused(1, -5);
        if (w.noBlock(order[0])) throw new Refused(2, order[0]);
        if (w.orders.size() == 6) throw new Refused(3, 6);
        if (order[3] <= order[2]) throw new Refused(4, order[3]);
        w.orders.add(order);
    }

    int refusal(int level) {
        if (level < 0 || level > 2) return -1;
        return refusal == null ? -5 : refusal[level];
    }

    int relief(int minutes) {
        if (minutes < 0 || minutes > 60) return -2;
        int was = now.relief;
        now.relief = minutes;
        return was;
    }

    private Way way(int train) {
        return train < 0 || train >= now.ways.size() ? null : now.ways.get(train);
    }

    int cancel(int train) {
        Way w = way(train);
        if (w == null || w.state == 5) return -1;
        if (w.state != 0) return 0;
        w.state = 5;
        w.since = now.time;
        return 1;
    }

    int lift(int order) {
        if (order < 0 || order >= now.orders.size()) return -1;
        now.orders.remove(order);
        return now.orders.size();
    }

    int pass(int n) {
        if (now.lengths == null) return -3;
        if (n < 1 || n > 500) return -2;
        if (now.time + n > 9999) return -4;
        for (int i = 0; i < n; i++) now.minute();
        return now.time;
    }

    int train(int train, int what) {
        Way w = way(train);
        if (w == null || what < 0 || what > 9) return -1;
        int[] properties = {w.state, w.place, w.priority, w.ready, w.extra, w.hours, w.since, w.until, w.crew, w.reliefs};
        return properties[what];
    }

    int station(int station, int what) {
        if (now.lengths == null) return -3;
        if (now.noStation(station) || what < 0 || what > 4) return -1;
        int bits = 0;
        int came = 0;
        for (int i = 0; i < now.ways.size(); i++) {
            Way w = now.ways.get(i);
            if ((w.state == 1 || w.state == 3) && w.place == station) bits += 1 << i;
            if (w.arrivals.containsKey(station)) came++;
        }
        int[] properties = {now.tracks[station], now.takers(station).size(), now.reliefStations[station] ? 1 : 0, bits, came};
        return properties[what];
    }

    int block(int block, int what) {
        if (now.lengths == null) return -3;
        if (now.noBlock(block) || what < 0 || what > 4) return -1;
        int taken = 0;
        int entered = 0;
        for (Way w : now.ways) {
            for (int minute = 0; minute < now.time; minute++) if (w.ranIn(minute, block)) taken++;
            for (int station : w.departures.keySet()) if (w.blockBehind(station) == block) entered++;
        }
        int[] properties = {now.lengths[block], now.inBlock(block), now.slow(block), taken, entered};
        return properties[what];
    }

    int why(int train, int what) {
        Way w = way(train);
        if (w == null || what < 0 || what > 1) return -1;
        int[] told = told(train, w);
        return told[what];
    }

    private int[] told(int train, Way w) {
        if (w.state == 0 && w.ready <= now.time && !now.free(w.from)) return new int[] {2, w.from};
        if (w.state == 0) return new int[] {1, w.ready > now.time ? w.ready - now.time : 0};
        if (w.state == 3) return new int[] {3, w.until - now.time};
        if (w.state != 1) return new int[] {0, -5};
        int block = w.blockBehind(w.place);
        switch (now.hindrance(w)) {
            case 4: return new int[] {4, now.inBlock(block)};
            case 5: return new int[] {5, w.place + w.step()};
            case 6: case 9: return new int[] {6, now.time - w.crew + now.minutes(w) - w.hours};
            default:
        }
        for (int other : now.dispatching()) {
            if (other == train) break;
            Way o = now.ways.get(other);
            if (o.blockBehind(o.place) == block && now.hindrance(o) == 8) return new int[] {7, other};
        }
        return new int[] {8, -5};
    }

    int order(int i) {
        List<Integer> order = now.dispatching();
        if (i == -1) return order.size();
        return i < 0 || i >= order.size() ? -1 : order.get(i);
    }

    private World later(int n) {
        World later = now.copy();
        for (int i = 0; i < n; i++) later.minute();
        return later;
    }

    int plan(int n) {
        if (now.lengths == null) return -3;
        if (n < 1 || n > 500) return -2;
        planFrom = now.time;
        planTo = now.time + n;
        plan = later(n).minutesAfter(planFrom, planTo);
        return plan.size();
    }

    int timetable(int train, int station, int what) {
        Way w = way(train);
        if (w == null || now.noStation(station) || what < 0 || what > 1) return -1;
        Integer happened = (what == 0 ? w.arrivals : w.departures).get(station);
        if (happened != null) return happened;
        Integer planned = plan == null ? null : plan.get(List.of(train, station, what));
        return planned == null ? -5 : planned;
    }

    int drift() {
        if (plan == null) return -5;
        Map<List<Integer>, Integer> all = now.minutesAfter(-1, 99999);
        Map<List<Integer>, Integer> inside = now.minutesAfter(planFrom, planTo);
        Set<List<Integer>> keys = new HashSet<>(inside.keySet());
        plan.forEach((key, minute) -> { if (minute <= now.time) keys.add(key); });
        keys.removeIf(key -> plan.containsKey(key) && plan.get(key).equals(all.get(key)));
        return keys.size();
    }

    int ahead(int n, int what) {
        if (now.lengths == null) return -3;
        if (n < 1 || n > 500) return -2;
        if (what < 0 || what > 3) return -1;
        World later = later(n);
        int[] states = new int[6];
        int waits = 0;
        boolean quiet = true;
        for (Way w : later.ways) {
            states[w.state]++;
            waits += later.spent(w, 1);
            if (w.state == 0) quiet &= w.ready <= later.time && !later.free(w.from);
            if (w.state == 1) quiet &= later.hindrance(w) < 8;
        }
        quiet &= states[2] == 0 && states[3] == 0;
        int[] answers = {states[4], states[2], waits, quiet ? 1 : 0};
        return answers[what];
    }

    int held(int block, int minute) {
        if (now.lengths == null) return -3;
        if (now.noBlock(block)) return -1;
        if (minute < 0 || minute > now.time) return -2;
        for (int i = 0; i < now.ways.size(); i++) if (now.held(now.ways.get(i), block, minute)) return i;
        return -5;
    }

    int conflicts() {
        int pairs = 0;
        for (int block = 0; block + 1 < now.stations(); block++) {
            for (int i = 0; i < now.ways.size(); i++) {
                for (int j = i + 1; j < now.ways.size(); j++) if (meet(now.ways.get(i), now.ways.get(j), block)) pairs++;
            }
        }
        return pairs;
    }

    private boolean meet(Way one, Way other, int block) {
        for (int minute = 0; minute <= now.time; minute++) {
            if (now.held(one, block, minute) && now.held(other, block, minute)) return true;
        }
        return false;
    }

    int account(int train, int what) {
        Way w = way(train);
        if (w == null || w.state == 5 || what < 0 || what > 5) return -1;
        int[] sums = {now.spent(w, 0), now.spent(w, 2), now.spent(w, 3), now.spent(w, 1)};
        if (what < 4) return sums[what];
        if (what == 4) return sums[0] + sums[1] + sums[2] + sums[3];
        return w.stationsOnTheWay().stream().mapToInt(s -> now.lengths[w.blockBehind(s)] + w.extra).sum();
    }

    int image() {
        image = now.copy();
        return now.time;
    }

    int undo() {
        if (image == null) return -3;
        now = image.copy();
        plan = null;
        return now.time;
    }

    int count(int what) {
        int outside = (int) now.ways.stream().filter(w -> w.state == 0).count();
        int ended = (int) now.ways.stream().filter(w -> w.state == 4).count();
        int longest = now.ways.stream().filter(w -> w.state == 1 || w.state == 3).mapToInt(w -> now.time - w.came).max().orElse(0);
        int[] counts = {now.time, now.stations(), now.ways.size(), outside, ended, now.orders.size(), now.bound,
            tape.length(), now.relief, longest};
        return what < 0 || what > 9 ? -1 : counts[what];
    }
}
