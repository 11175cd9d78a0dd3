import java.util.ArrayList;
import java.util.Arrays;
import java.util.List;
import java.util.Map;
import java.util.NoSuchElementException;
import java.util.TreeMap;

/**
 * The document told once more, slowly: whole histories are kept, and every question is answered from them.
 * It shares nothing with BoilerTaps, so that a slip in one of them shows as a difference.
 */
public final class Oracle {
    static final class Fault extends RuntimeException {
        private static final long serialVersionUID = 1L;
        final int kind;
        final int place;

        Fault(int kind, int place) {
            this.kind = kind;
            this.place = place;
        }
    }

    record Token(String text, int place) {
        boolean isNumber() {
            return !text.isEmpty() && Character.isDigit(text.charAt(0));
        }
    }

    static final class Tokens {
        final List<Token> list = new ArrayList<>();
        int next;

        Tokens(int[] bytes, int n) {
            int i = 0;
            while (i < n) {
                int from = i;
                if (bytes[i] == 32) {
                    i++;
                    continue;
                }
                StringBuilder b = new StringBuilder();
                if (digit(bytes[i])) {
                    while (i < n && digit(bytes[i])) {
                        b.append((char) bytes[i++]);
                    }
                } else if (letter(bytes[i])) {
                    while (i < n && letter(bytes[i])) {
                        b.append((char) bytes[i++]);
                    }
                } else {
                    b.append((char) bytes[i++]);
                }
                list.add(new Token(b.toString(), from));
            }
            list.add(new Token("", n));
        }

        static boolean digit(int c) {
            return c >= 48 && c <= 57;
        }

        static boolean letter(int c) {
            return c >= 97 && c <= 122;
        }

        Token peek() {
            return list.get(next);
        }

        boolean take(String text) {
            if (!peek().text.equals(text) || text.isEmpty()) {
                return false;
            }
            next++;
            return true;
        }

        void must(String text) {
            if (!take(text)) {
                throw new Fault(1, peek().place);
            }
        }

        int number(int least, int most) {
            Token t = peek();
            if (!t.isNumber()) {
                throw new Fault(1, t.place);
            }
            java.math.BigInteger v = new java.math.BigInteger(t.text);
            if (v.compareTo(java.math.BigInteger.valueOf(least)) < 0
                    || v.compareTo(java.math.BigInteger.valueOf(most)) > 0) {
                throw new Fault(2, t.place);
            }
            next++;
            return v.intValue();
        }
    }

    record Room(int mass, int first) { }

    record Sun(int gain, int from, int to) { }

    record Radiator(int room, int pipe, int size) { }

    record Tap(String kind, int set) { }

    record Holiday(int from, int to, int off) { }

    static final class Plan {
        final List<Room> rooms = new ArrayList<>();
        final List<Radiator> radiators = new ArrayList<>();
        final Map<Integer, Integer> walls = new TreeMap<>();
        final Map<Integer, Integer> outer = new TreeMap<>();
        final Map<Integer, Integer> window = new TreeMap<>();
        final Map<Integer, Sun> sun = new TreeMap<>();
        final Map<Integer, Tap> taps = new TreeMap<>();
        int pump = 100;
        int power = 9999;
        int water = 600;
        int clauses;

        int wall(int a, int b) {
            return walls.getOrDefault(Math.min(a, b) * 10 + Math.max(a, b), 0);
        }

        static Plan read(Tokens t) {
            Plan p = new Plan();
            while (!t.peek().text.isEmpty()) {
                p.clause(t);
                t.must(";");
            }
            if (p.rooms.isEmpty()) {
                throw new Fault(4, t.peek().place);
            }
            return p;
        }

        private void clause(Tokens t) {
            Token w = t.peek();
            if (!List.of("room", "wall", "outer", "window", "sun", "radiator", "snap", "slow", "draught",
                    "pump", "boiler").contains(w.text)) {
                throw new Fault(1, w.place);
            }
            if (++clauses > 40 || w.text.equals("room") && rooms.size() == 8
                    || w.text.equals("radiator") && radiators.size() == 8) {
                throw new Fault(3, w.place);
            }
            t.next++;
            int r = rooms.size() - 1;
            switch (w.text) {
                case "room" -> rooms.add(new Room(t.number(1, 99), 10 * t.number(0, 400)));
                case "wall" -> {
                    int a = t.number(0, r);
                    int place = t.peek().place;
                    int b = t.number(0, r);
                    if (a == b) {
                        throw new Fault(2, place);
                    }
                    walls.put(Math.min(a, b) * 10 + Math.max(a, b), t.number(0, 99));
                }
                case "outer" -> outer.put(t.number(0, r), t.number(0, 99));
                case "window" -> window.put(t.number(0, r), t.number(0, 99));
                case "sun" -> {
                    int room = t.number(0, r);
                    int gain = t.number(0, 999);
                    int from = t.number(0, 24);
                    sun.put(room, new Sun(gain, from, t.number(from + 1, 24)));
                }
                case "radiator" -> radiators.add(new Radiator(t.number(0, r), t.number(0, 3), t.number(1, 99)));
                case "pump" -> pump = t.number(1, 999);
                case "boiler" -> {
                    power = t.number(1, 99999);
                    water = t.number(200, 900);
                }
                default -> taps.put(t.number(0, radiators.size() - 1), new Tap(w.text, t.number(0, 400)));
            }
        }
    }

    /** What one MINUTE had: what was open in it, and the TEMPERATURES behind it. */
    static final class Minute {
        int[] flow = new int[8];
        int[] heat = new int[8];
        int[] walls = new int[8];
        int[] outer = new int[8];
        int[] window = new int[8];
        int[] got = new int[8];
        int[] sun = new int[8];
        int[] warmth = new int[8];
        boolean[] open = new boolean[8];
        boolean[] turned = new boolean[8];
        boolean[] hotPipe = new boolean[4];
        boolean ran;
    }

    /** All that MARKS keep. */
    static final class World {
        int[] warmth = new int[8];
        int[] tap = new int[8];
        int[] moved = new int[8];
        boolean[] open = new boolean[8];
        boolean[] air = new boolean[4];
        int[] screw = {16, 16, 16, 16, 16, 16, 16, 16};
        int[] out = new int[24];
        int[] water = new int[24];
        int[] night = new int[3];
        List<Holiday> holidays = new ArrayList<>();
        int pump = 100;
        List<Minute> past = new ArrayList<>();

        World copy() {
            World w = new World();
            w.warmth = warmth.clone();
            w.tap = tap.clone();
            w.moved = moved.clone();
            w.open = open.clone();
            w.air = air.clone();
            w.screw = screw.clone();
            w.out = out.clone();
            w.water = water.clone();
            w.night = night.clone();
            w.holidays = new ArrayList<>(holidays);
            w.pump = pump;
            w.past = new ArrayList<>(past);
            return w;
        }

        void shut(Plan p) {
            past = new ArrayList<>();
            moved = new int[8];
            open = new boolean[8];
            air = new boolean[4];
            for (int i = 0; i < p.rooms.size(); i++) {
                warmth[i] = p.rooms.get(i).first;
            }
            for (int k = 0; k < 8; k++) {
                tap[k] = p.taps.containsKey(k) ? 0 : 16;
            }
        }
    }

    /** What is otherwise with TAPS than the text tells. */
    static final class Odd {
        final List<Integer> stuck = new ArrayList<>();
        final int[] sees = {0, 1, 2, 3, 4, 5, 6, 7};
        final int[] more = new int[8];
    }

    private static long step(Plan p, World w, Odd odd) {
        Minute m = new Minute();
        int number = w.past.size();
        int hour = number / 60 % 24;
        int water = w.water[hour] == 0 ? p.water : w.water[hour];
        heat(p, w, m, water);
        long all = 0;
        for (int k = 0; k < p.radiators.size(); k++) {
            all += m.heat[k];
            m.got[p.radiators.get(k).room] += m.heat[k];
            m.ran |= m.heat[k] > 0;
            m.hotPipe[p.radiators.get(k).pipe] |= m.flow[k] > 0 && water >= 600;
        }
        for (int r = 0; r < p.rooms.size(); r++) {
            for (int o = 0; o < p.rooms.size(); o++) {
                m.walls[r] += o == r ? 0 : p.wall(r, o) * (w.warmth[r] - w.warmth[o]) / 100;
            }
            m.outer[r] = p.outer.getOrDefault(r, 0) * (w.warmth[r] - w.out[hour]) / 100;
            m.open[r] = w.open[r];
            m.window[r] = w.open[r] ? p.window.getOrDefault(r, 0) * (w.warmth[r] - w.out[hour]) / 100 : 0;
            Sun s = p.sun.get(r);
            m.sun[r] = s != null && s.from <= hour && hour < s.to ? s.gain : 0;
        }
        for (int r = 0; r < p.rooms.size(); r++) {
            int net = m.got[r] + m.sun[r] - m.walls[r] - m.outer[r] - m.window[r];
            w.warmth[r] = Math.min(9999, Math.max(-9999, w.warmth[r] + net / p.rooms.get(r).mass));
        }
        m.warmth = w.warmth.clone();
        move(p, w, odd, m, off(w, number, hour));
        w.past.add(m);
        return all;
    }

    private static void heat(Plan p, World w, Minute m, int water) {
        int n = p.radiators.size();
        int[] open = new int[n];
        int sum = 0;
        for (int k = 0; k < n; k++) {
            open[k] = w.air[p.radiators.get(k).pipe] ? 0 : Math.min(w.tap[k], w.screw[k]);
            sum += open[k];
        }
        long all = 0;
        long[] raw = new long[n];
        for (int k = 0; k < n; k++) {
            Radiator r = p.radiators.get(k);
            m.flow[k] = sum == 0 ? 0 : w.pump * open[k] / sum;
            raw[k] = Math.max(0, (long) m.flow[k] * r.size * (water * 10L - w.warmth[r.room]) / 10000);
            all += raw[k];
        }
        for (int k = 0; k < n; k++) {
            m.heat[k] = (int) (all > p.power ? raw[k] * p.power / all : raw[k]);
        }
    }

    private static int off(World w, int minute, int hour) {
        int off = 0;
        int length = w.night[0] == w.night[1] ? 24 : (w.night[1] - w.night[0] + 24) % 24;
        for (int i = 0; i < length; i++) {
            if ((w.night[0] + i) % 24 == hour) {
                off = w.night[2];
            }
        }
        for (Holiday h : w.holidays) {
            if (h.from <= minute && minute < h.to && h.off > off) {
                off = h.off;
            }
        }
        return off;
    }

    private static void move(Plan p, World w, Odd odd, Minute m, int off) {
        for (Map.Entry<Integer, Tap> e : p.taps.entrySet()) {
            int k = e.getKey();
            if (odd.stuck.contains(k)) {
                continue;
            }
            int room = p.radiators.get(odd.sees[k]).room;
            String kind = e.getValue().kind;
            int sees = w.warmth[room] - (kind.equals("draught") && w.open[room] ? 300 : 0);
            int goal = 10 * (e.getValue().set + odd.more[k] - off);
            int was = w.tap[k];
            if (kind.equals("slow")) {
                if (sees < goal) {
                    w.tap[k] = Math.min(16, was + 2);
                } else if (sees > goal) {
                    w.tap[k] = Math.max(0, was - 2);
                }
            } else if (sees < goal - 20) {
                w.tap[k] = 16;
            } else if (sees > goal + 20) {
                w.tap[k] = 0;
            }
            int way = Integer.signum(w.tap[k] - was);
            m.turned[k] = way * w.moved[k] < 0;
            if (way != 0) {
                w.moved[k] = way;
            }
        }
    }

    // ---- the object

    private final List<Integer> tape = new ArrayList<>();
    private int fault = -1;
    private Plan plan = new Plan();
    private World world = new World();
    private List<World> marks = new ArrayList<>();
    private Tokens words;
    private Tokens claim;
    private int[] errors = new int[8];
    private Map<Integer, Integer> gauges = new TreeMap<>();
    private List<int[]> log = new ArrayList<>();

    private static void within(int v, int least, int most) {
        if (v < least || v > most) {
            throw new IllegalArgumentException();
        }
    }

    private void roomThere(int r) {
        if (r < 0 || r >= plan.rooms.size()) {
            throw new IndexOutOfBoundsException();
        }
    }

    private void radiatorThere(int k) {
        if (k < 0 || k >= plan.radiators.size()) {
            throw new NoSuchElementException();
        }
    }

    private void houseThere() {
        if (plan.rooms.isEmpty()) {
            throw new IllegalStateException();
        }
    }

    public int feed(int a, int b, int c, int d, int e) {
        if (tape.size() > 480) {
            return -1;
        }
        for (int v : new int[] {a, b, c, d, e}) {
            tape.addAll(List.of(v >> 24 & 255, v >> 16 & 255, v >> 8 & 255, v & 255));
        }
        return tape.size();
    }

    private Tokens cut(int n, int most) {
        if (n < 0 || n > tape.size() || n > most) {
            throw new IllegalArgumentException();
        }
        Tokens t = new Tokens(tape.stream().mapToInt(Integer::intValue).toArray(), n);
        tape.clear();
        fault = -1;
        return t;
    }

    private int faulty(Fault f) {
        fault = f.place;
        return f.kind - 10;
    }

    public int house(int n) {
        Tokens t = cut(n, 500);
        try {
            plan = Plan.read(t);
        } catch (Fault f) {
            return faulty(f);
        }
        world = new World();
        world.shut(plan);
        world.pump = plan.pump;
        marks = new ArrayList<>();
        errors = new int[8];
        gauges = new TreeMap<>();
        log = new ArrayList<>();
        return plan.rooms.size();
    }

    public int words(int n) {
        Tokens t = cut(n, 200);
        try {
            sum(t, -1, 0);
            if (!t.peek().text.isEmpty()) {
                throw new Fault(1, t.peek().place);
            }
        } catch (Fault f) {
            return faulty(f);
        }
        words = t;
        return 0;
    }

    public int fault() {
        return fault;
    }

    public int told(int what) {
        within(what, 0, 5);
        return new int[] {plan.rooms.size(), plan.radiators.size(), plan.pump, plan.power, plan.water,
            plan.clauses}[what];
    }

    private Minute latest() {
        return world.past.isEmpty() ? new Minute() : world.past.get(world.past.size() - 1);
    }

    public int room(int r, int what) {
        roomThere(r);
        within(what, 0, 9);
        Minute m = latest();
        return new int[] {plan.rooms.get(r).mass, world.warmth[r], plan.outer.getOrDefault(r, 0),
            plan.window.getOrDefault(r, 0), world.open[r] ? 1 : 0, m.walls[r], m.outer[r], m.window[r], m.got[r],
            m.sun[r]}[what];
    }

    public int wall(int a, int b) {
        roomThere(a);
        roomThere(b);
        return plan.wall(a, b);
    }

    private int turned(int k) {
        int often = 0;
        for (int i = Math.max(0, world.past.size() - 60); i < world.past.size(); i++) {
            often += world.past.get(i).turned[k] ? 1 : 0;
        }
        return often;
    }

    private int shows(int k) {
        long heats = 0;
        for (Minute m : world.past) {
            heats = Math.min(100_000_000L, heats + m.heat[k]);
        }
        return (int) (heats + heats * errors[k] / 100);
    }

    public int radiator(int k, int what) {
        radiatorThere(k);
        within(what, 0, 10);
        Radiator r = plan.radiators.get(k);
        Tap t = plan.taps.get(k);
        int kind = t == null ? 0 : List.of("", "snap", "slow", "draught").indexOf(t.kind);
        Minute m = latest();
        return new int[] {r.room, r.pipe, r.size, kind, t == null ? 0 : t.set, t == null ? 16 : world.tap[k],
            world.screw[k], m.flow[k], m.heat[k], shows(k), turned(k)}[what];
    }

    public int out(int hour, int v) {
        within(hour, 0, 23);
        within(v, -4000, 4000);
        int was = world.out[hour];
        world.out[hour] = v;
        return was;
    }

    public int screw(int k, int v) {
        radiatorThere(k);
        within(v, 1, 16);
        int was = world.screw[k];
        world.screw[k] = v;
        return was;
    }

    public boolean open(int r, boolean is) {
        roomThere(r);
        boolean was = world.open[r];
        world.open[r] = is;
        return was;
    }

    public boolean air(int p, boolean is) {
        within(p, 0, 3);
        boolean was = world.air[p];
        world.air[p] = is;
        return was;
    }

    public int night(int from, int to, int off) {
        within(from, 0, 23);
        within(to, 0, 23);
        within(off, 0, 200);
        int was = world.night[2];
        world.night = new int[] {from, to, off};
        return was;
    }

    public int go(int minutes) {
        within(minutes, 0, 999);
        houseThere();
        long all = 0;
        for (int i = 0; i < minutes; i++) {
            all += step(plan, world, new Odd());
        }
        return (int) all;
    }

    private int starts() {
        int n = 0;
        for (int i = 0; i < world.past.size(); i++) {
            n += world.past.get(i).ran && (i == 0 || !world.past.get(i - 1).ran) ? 1 : 0;
        }
        return n;
    }

    public int clock(int what) {
        within(what, 0, 3);
        int n = world.past.size();
        return new int[] {n, starts(), latest().ran ? 1 : 0, n % 1440 / 60}[what];
    }

    public int hunts(int often) {
        within(often, 1, 60);
        int bits = 0;
        for (int k = 0; k < plan.radiators.size(); k++) {
            bits += turned(k) >= often ? 1 << k : 0;
        }
        return bits;
    }

    public int log(int minute, int r, int v) {
        roomThere(r);
        within(minute, 1, 240);
        within(v, -9999, 9999);
        if (log.size() == 20) {
            return -1;
        }
        log.add(new int[] {minute, r, v});
        return log.size();
    }

    private List<Integer> allThings() {
        List<Integer> list = new ArrayList<>();
        for (int kind = 0; kind < 2; kind++) {
            for (int k : plan.taps.keySet()) {
                list.add(10 * kind + k);
            }
        }
        list.addAll(List.of(20, 21, 22, 23));
        for (int r = 0; r < plan.rooms.size(); r++) {
            list.add(30 + r);
        }
        for (int k : plan.taps.keySet()) {
            if (plan.taps.containsKey(k + 1)) {
                list.add(40 + k);
            }
        }
        return list;
    }

    /** The MINUTES from the beginning with a set of things WRONG. */
    private List<Minute> wrongRun(List<Integer> set, int minutes) {
        World w = world.copy();
        w.shut(plan);
        Odd odd = new Odd();
        for (int thing : set) {
            int n = thing % 10;
            switch (thing / 10) {
                case 0, 1 -> {
                    w.tap[n] = thing / 10 * 16;
                    odd.stuck.add(n);
                }
                case 2 -> w.air[n] = true;
                case 3 -> w.open[n] = true;
                default -> {
                    int s = odd.sees[n];
                    odd.sees[n] = odd.sees[n + 1];
                    odd.sees[n + 1] = s;
                }
            }
        }
        for (int i = 0; i < minutes; i++) {
            step(plan, w, odd);
        }
        return w.past;
    }

    /** For tests that want a LOG that some things explain: what a ROOM has then. */
    int wouldHave(List<Integer> set, int minute, int room) {
        return wrongRun(set, minute).get(minute - 1).warmth[room];
    }

    List<Integer> thingsThere() {
        return allThings();
    }

    private boolean explains(List<Integer> set, int far) {
        int last = 0;
        for (int[] row : log) {
            last = Math.max(last, row[0]);
        }
        List<Minute> past = wrongRun(set, last);
        for (int[] row : log) {
            if (Math.abs(past.get(row[0] - 1).warmth[row[1]] - row[2]) > far) {
                return false;
            }
        }
        return true;
    }

    public boolean explained(int wrong, int other, int far) {
        TreeMap<Integer, Integer> set = new TreeMap<>();
        for (int thing : new int[] {wrong, other}) {
            if (thing != -1) {
                if (!allThings().contains(thing)) {
                    throw new IllegalArgumentException();
                }
                set.put(thing, thing);
            }
        }
        within(far, 0, 9999);
        houseThere();
        return explains(new ArrayList<>(set.keySet()), far);
    }

    public int cause(int far, int which) {
        within(far, 0, 9999);
        within(which, 0, 1);
        houseThere();
        List<List<Integer>> sets = new ArrayList<>();
        sets.add(List.of());
        List<Integer> things = allThings();
        for (int a : things) {
            sets.add(List.of(a));
        }
        for (int a : things) {
            for (int b : things) {
                if (a < b) {
                    sets.add(List.of(a, b));
                }
            }
        }
        for (List<Integer> set : sets) {
            if (explains(set, far)) {
                return which < set.size() ? set.get(which) : -1;
            }
        }
        return -2;
    }

    public int things() {
        return allThings().size();
    }

    private boolean warm(World w, int want) {
        for (Radiator r : plan.radiators) {
            if (w.warmth[r.room] < want) {
                return false;
            }
        }
        return true;
    }

    /** TURNING and then the SCREWS of the best way; null if there is none. */
    private int[] best(int out, int want) {
        int n = Math.min(4, plan.radiators.size());
        int[] best = null;
        for (int a = 4; a <= 16; a += 4) {
            for (int b = 4; b <= 16; b += 4) {
                for (int c = 4; c <= 16; c += 4) {
                    for (int d = 4; d <= 16; d += 4) {
                        int[] way = {0, a, b, c, d};
                        World w = world.copy();
                        for (int k = 0; k < n; k++) {
                            way[0] += Math.abs(way[k + 1] - world.screw[k]);
                            w.screw[k] = way[k + 1];
                        }
                        if (best != null && best[0] <= way[0]) {
                            continue;
                        }
                        w.shut(plan);
                        Arrays.fill(w.out, out);
                        for (int i = 0; i < 180; i++) {
                            step(plan, w, new Odd());
                        }
                        best = warm(w, want) ? way : best;
                        if (n < 4) {
                            d = 16;
                        }
                    }
                    c = n < 3 ? 16 : c;
                }
                b = n < 2 ? 16 : b;
            }
            a = n < 1 ? 16 : a;
        }
        return best;
    }

    public int balanced(int k, int out, int want) {
        radiatorThere(k);
        within(out, -4000, 4000);
        within(want, 0, 9999);
        int[] best = best(out, want);
        return best == null ? -1 : k < 4 ? best[k + 1] : world.screw[k];
    }

    public int turning(int out, int want) {
        within(out, -4000, 4000);
        within(want, 0, 9999);
        houseThere();
        int[] best = best(out, want);
        return best == null ? -1 : best[0];
    }

    public int wake(int out, int other, int want) {
        within(out, -4000, 4000);
        within(other, -4000, 4000);
        within(want, 0, 9999);
        houseThere();
        int most = 0;
        for (int v : new int[] {out, other}) {
            World w = world.copy();
            Arrays.fill(w.out, v);
            w.night = new int[3];
            w.holidays.clear();
            int t = 0;
            while (t <= 240 && !(t % 10 == 0 && warm(w, want))) {
                step(plan, w, new Odd());
                t++;
            }
            if (t > 240) {
                return -1;
            }
            most = Math.max(most, t);
        }
        return most;
    }

    public int wish(int k, int more, int minutes, int r) {
        radiatorThere(k);
        if (r != -1) {
            roomThere(r);
        }
        if (!plan.taps.containsKey(k)) {
            throw new IllegalArgumentException();
        }
        within(more, 0, 200);
        within(minutes, 0, 240);
        long[] heats = new long[2];
        int[] warmth = new int[2];
        for (int i = 0; i < 2; i++) {
            World w = world.copy();
            Odd odd = new Odd();
            odd.more[k] = i * more;
            for (int m = 0; m < minutes; m++) {
                heats[i] += step(plan, w, odd);
            }
            warmth[i] = r == -1 ? 0 : w.warmth[r];
        }
        return r == -1 ? (int) (heats[1] - heats[0]) : warmth[1] - warmth[0];
    }

    public int error(int k, int v) {
        radiatorThere(k);
        within(v, -50, 50);
        int was = errors[k];
        errors[k] = v;
        return was;
    }

    private int sum(Tokens t, int k, int depth) {
        int v = product(t, k, depth);
        while (true) {
            if (t.take("+")) {
                v += product(t, k, depth);
            } else if (t.take("-")) {
                v -= product(t, k, depth);
            } else {
                return v;
            }
        }
    }

    private int product(Tokens t, int k, int depth) {
        int v = unit(t, k, depth);
        while (true) {
            if (t.take("*")) {
                v *= unit(t, k, depth);
            } else if (t.take("/")) {
                int by = unit(t, k, depth);
                v = by == 0 ? 0 : v / by;
            } else {
                return v;
            }
        }
    }

    private int unit(Tokens t, int k, int depth) {
        Token here = t.peek();
        if (t.take("(")) {
            if (depth == 6) {
                throw new Fault(3, here.place);
            }
            int v = sum(t, k, depth + 1);
            t.must(")");
            return v;
        }
        if (here.isNumber()) {
            return t.number(0, 9999);
        }
        if (!List.of("meter", "size", "all", "many", "set").contains(here.text)) {
            throw new Fault(1, here.place);
        }
        t.next++;
        return k < 0 ? 1 : named(here.text, k);
    }

    private int named(String name, int k) {
        int all = 0;
        for (int i = 0; i < plan.radiators.size(); i++) {
            all += shows(i);
        }
        return switch (name) {
            case "meter" -> shows(k);
            case "size" -> plan.radiators.get(k).size;
            case "all" -> all;
            case "many" -> plan.radiators.size();
            default -> plan.taps.containsKey(k) ? plan.taps.get(k).set : 0;
        };
    }

    public int part(int k) {
        radiatorThere(k);
        if (words == null) {
            return 0;
        }
        words.next = 0;
        return Math.max(0, Math.min(1_000_000, sum(words, k, 0)));
    }

    public int pays(int k, int bill) {
        radiatorThere(k);
        within(bill, 0, 1_000_000);
        int n = plan.radiators.size();
        long all = 0;
        long[] parts = new long[n];
        for (int i = 0; i < n; i++) {
            parts[i] = part(i);
            all += parts[i];
        }
        if (all == 0) {
            return 0;
        }
        long[] pays = new long[n];
        long[] rest = new long[n];
        long left = bill;
        for (int i = 0; i < n; i++) {
            pays[i] = bill * parts[i] / all;
            rest[i] = bill * parts[i] % all;
            left -= pays[i];
        }
        while (left > 0) {
            int to = 0;
            for (int i = 1; i < n; i++) {
                to = rest[i] > rest[to] ? i : to;
            }
            rest[to] = -1;
            pays[to]++;
            left--;
        }
        return (int) pays[k];
    }

    public int blame(int r) {
        roomThere(r);
        int[] lost = {latest().walls[r], latest().outer[r], latest().window[r]};
        int by = -1;
        for (int i = 0; i < 3; i++) {
            if (lost[i] > (by == -1 ? 0 : lost[by])) {
                by = i;
            }
        }
        return by;
    }

    private int wholeHours() {
        return Math.min(48, world.past.size() / 60);
    }

    private int entry(int r, int back, int what) {
        int from = (world.past.size() / 60 - 1 - back) * 60;
        int[] e = {99999, -99999, 0, 0, 0, 0, 0};
        for (Minute m : world.past.subList(from, from + 60)) {
            e[0] = Math.min(e[0], m.warmth[r]);
            e[1] = Math.max(e[1], m.warmth[r]);
            e[2] += m.open[r] ? 1 : 0;
            e[3] += m.got[r];
            e[4] += m.walls[r];
            e[5] += m.outer[r];
            e[6] += m.window[r];
        }
        return e[what];
    }

    public int diary(int r, int back, int what) {
        roomThere(r);
        within(back, 0, wholeHours() - 1);
        within(what, 0, 6);
        return entry(r, back, what);
    }

    public int cold(int r, int below, int by) {
        roomThere(r);
        within(below, -9999, 9999);
        within(by, -1, 3);
        int n = 0;
        for (int back = 0; back < wholeHours(); back++) {
            int why = entry(r, back, 2) >= 10 ? 3 : entry(r, back, 3) == 0 ? 2
                    : entry(r, back, 4) > entry(r, back, 5) ? 1 : 0;
            n += entry(r, back, 0) < below && (by == -1 || by == why) ? 1 : 0;
        }
        return n;
    }

    public int claim(int n) {
        Tokens t = cut(n, 200);
        try {
            either(t, 0);
            if (!t.peek().text.isEmpty()) {
                throw new Fault(1, t.peek().place);
            }
        } catch (Fault f) {
            return faulty(f);
        }
        claim = t;
        return 0;
    }

    /** 1 yes, 0 no, -1 OPEN; all sides are always read, for reading moves on. */
    private int either(Tokens t, int depth) {
        List<Integer> sides = new ArrayList<>();
        do {
            sides.add(both(t, depth));
        } while (t.take("or"));
        return sides.contains(1) ? 1 : sides.contains(-1) ? -1 : 0;
    }

    private int both(Tokens t, int depth) {
        List<Integer> sides = new ArrayList<>();
        do {
            sides.add(one(t, depth));
        } while (t.take("and"));
        return sides.contains(0) ? 0 : sides.contains(-1) ? -1 : 1;
    }

    private int one(Tokens t, int depth) {
        Token here = t.peek();
        if (here.text.equals("not") || here.text.equals("[")) {
            if (depth == 6) {
                throw new Fault(3, here.place);
            }
            t.next++;
            if (here.text.equals("[")) {
                int v = either(t, depth + 1);
                t.must("]");
                return v;
            }
            int v = one(t, depth + 1);
            return v == -1 ? -1 : 1 - v;
        }
        if (!List.of("under", "over", "opened", "got").contains(here.text)) {
            throw new Fault(1, here.place);
        }
        t.next++;
        int r = t.number(0, 7);
        int n = here.text.equals("under") || here.text.equals("over") ? t.number(0, 400) * 10 : 0;
        int from = t.number(0, 47);
        int to = t.number(from, 47);
        return said(here.text, r, n, from, to);
    }

    private int said(String name, int r, int n, int from, int to) {
        if (r >= plan.rooms.size() || to >= wholeHours()) {
            return -1;
        }
        int yes = 0;
        for (int back = from; back <= to; back++) {
            yes += switch (name) {
                case "under" -> entry(r, back, 0) < n;
                case "over" -> entry(r, back, 1) > n;
                case "opened" -> entry(r, back, 2) != 0;
                default -> entry(r, back, 3) != 0;
            } ? 1 : 0;
        }
        boolean each = name.equals("under") || name.equals("over");
        return each ? yes == to - from + 1 ? 1 : 0 : yes > 0 ? 1 : 0;
    }

    public int judge() {
        if (claim == null) {
            return -1;
        }
        claim.next = 0;
        return either(claim, 0);
    }

    public int water(int hour, int v) {
        within(hour, 0, 23);
        if (v != 0) {
            within(v, 200, 900);
        }
        int was = world.water[hour];
        world.water[hour] = v;
        return was;
    }

    public int dead(int p) {
        within(p, 0, 3);
        int since = 0;
        for (int i = world.past.size() - 1; i >= 0 && !world.past.get(i).hotPipe[p]; i--) {
            since++;
        }
        return since;
    }

    public int holiday(int from, int to, int off) {
        within(from, 0, 99999);
        within(to, 0, 99999);
        within(off, 0, 200);
        if (to <= from) {
            throw new IllegalArgumentException();
        }
        if (world.holidays.size() == 4) {
            return -1;
        }
        world.holidays.add(new Holiday(from, to, off));
        return world.holidays.size();
    }

    public int pump(int v) {
        within(v, 1, 999);
        int was = world.pump;
        world.pump = v;
        return was;
    }

    public int gauge(int p, int place, int v) {
        within(p, 0, 3);
        within(place, 0, 9);
        within(v, -1, 999);
        Integer was = v == -1 ? gauges.remove(10 * p + place) : gauges.put(10 * p + place, v);
        return was == null ? -1 : was;
    }

    public int burst(int p, int norm) {
        within(p, 0, 3);
        within(norm, 0, 99);
        List<Integer> places = new ArrayList<>();
        for (int key : gauges.keySet()) {
            if (key / 10 == p) {
                places.add(key);
            }
        }
        int most = 0;
        int at = -1;
        for (int i = 0; i + 1 < places.size(); i++) {
            int a = places.get(i);
            int b = places.get(i + 1);
            int beyond = gauges.get(a) - gauges.get(b) - norm * (b - a);
            if (beyond > most) {
                most = beyond;
                at = a % 10;
            }
        }
        return at;
    }

    public int wear(int start) {
        within(start, 0, 999);
        int ran = 0;
        for (Minute m : world.past) {
            ran += m.ran ? 1 : 0;
        }
        return starts() * start + ran;
    }

    public int mark() {
        if (marks.size() == 4) {
            return -1;
        }
        marks.add(world.copy());
        return marks.size();
    }

    public int back() {
        if (marks.isEmpty()) {
            return -1;
        }
        world = marks.remove(marks.size() - 1);
        return marks.size();
    }

    public int count(int what) {
        int open = 0;
        for (boolean b : world.open) {
            open += b ? 1 : 0;
        }
        int air = 0;
        for (boolean b : world.air) {
            air += b ? 1 : 0;
        }
        int[] counts = {log.size(), marks.size(), tape.size(), open, air, plan.taps.size(), wholeHours(),
            world.holidays.size(), gauges.size()};
        return what < 0 || what >= counts.length ? -1 : counts[what];
    }
}
