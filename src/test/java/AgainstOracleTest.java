import java.lang.reflect.InvocationTargetException;
import java.lang.reflect.Method;
import java.lang.reflect.Modifier;
import java.nio.charset.StandardCharsets;
import java.util.ArrayList;
import java.util.Arrays;
import java.util.HashMap;
import java.util.List;
import java.util.Map;
import java.util.Random;

/** Random runs of calls, the same ones always: BoilerTaps and the Oracle must answer, or throw, alike. */
public final class AgainstOracleTest {
    private static final Map<String, Method> OURS = methods(BoilerTaps.class);
    private static final Map<String, Method> THEIRS = methods(Oracle.class);
    private static final int MOST_SHOWN = 20;
    private static int wrong;

    private final Random random;
    private final int run;
    private final BoilerTaps ours = new BoilerTaps();
    private final Oracle oracle = new Oracle();
    private final List<String> past = new ArrayList<>();
    private boolean differs;

    private AgainstOracleTest(int run) {
        this.run = run;
        this.random = new Random(7919L * run + 1);
    }

    private static Map<String, Method> methods(Class<?> c) {
        Map<String, Method> map = new HashMap<>();
        for (Method m : c.getDeclaredMethods()) {
            if (Modifier.isPublic(m.getModifiers())) {
                map.put(m.getName(), m);
            }
        }
        return map;
    }

    public static void main(String[] args) {
        int runs = args.length > 1 ? Integer.parseInt(args[1]) : 400;
        int first = args.length > 2 ? Integer.parseInt(args[2]) : 0;
        for (int run = first; run < first + runs; run++) {
            new AgainstOracleTest(run).play();
        }
        System.out.println(runs + " random runs, " + wrong + " with a difference");
        if (wrong != 0) {
            System.exit(1);
        }
    }

    private static String answer(Map<String, Method> face, Object target, String name, Object[] args) {
        try {
            return String.valueOf(face.get(name).invoke(target, args));
        } catch (InvocationTargetException e) {
            return "throws." + e.getCause().getClass().getSimpleName();
        } catch (IllegalAccessException e) {
            throw new IllegalStateException(e);
        }
    }

    private void call(String name, Object... args) {
        if (differs) {
            return;
        }
        String due = answer(THEIRS, oracle, name, args);
        String got = answer(OURS, ours, name, args);
        past.add(name + Arrays.toString(args) + " -> " + got);
        if (!due.equals(got)) {
            differs = true;
            wrong++;
            System.out.println("run " + run + ", due is " + due + ", behind:");
            for (String row : past.subList(Math.max(0, past.size() - MOST_SHOWN), past.size())) {
                System.out.println("    " + row);
            }
        }
    }

    private int any(int least, int most) {
        return least + random.nextInt(most - least + 1);
    }

    /** Mostly within the bounds; now and then at them, or just beyond. */
    private int about(int least, int most) {
        switch (random.nextInt(25)) {
            case 0:
                return least - 1;
            case 1:
                return most + 1;
            case 2:
                return least;
            case 3:
                return most;
            case 4:
                return chance(4) ? extreme() : any(least, most);
            default:
                return any(least, most);
        }
    }

    private int extreme() {
        return chance(2) ? Integer.MIN_VALUE + any(0, 1) : Integer.MAX_VALUE - any(0, 1);
    }

    private boolean chance(int of) {
        return random.nextInt(of) == 0;
    }

    private int rooms() {
        return oracle.told(0);
    }

    private int radiators() {
        return oracle.told(1);
    }

    private int aRoom() {
        return chance(30) ? any(-1, 8) : chance(99) ? extreme() : any(0, Math.max(0, rooms() - 1));
    }

    private int aRadiator() {
        return chance(30) ? any(-1, 8) : chance(99) ? extreme() : any(0, Math.max(0, radiators() - 1));
    }

    // ---- texts

    private String gap() {
        return chance(4) ? " ".repeat(any(1, 3)) : "";
    }

    private String number(int v) {
        return (chance(40) ? "0" : "") + v;
    }

    private String clause(Object... parts) {
        StringBuilder b = new StringBuilder(gap());
        boolean afterNumber = false;
        for (Object p : parts) {
            boolean isNumber = p instanceof Integer;
            b.append(isNumber && (afterNumber || !chance(6)) ? " " : "").append(gap());
            b.append(isNumber ? number((Integer) p) : p);
            afterNumber = isNumber;
        }
        return b.append(gap()).append(';').toString();
    }

    private String aHouse() {
        StringBuilder b = new StringBuilder();
        int rooms = chance(8) ? any(0, 9) : any(1, 4);
        int radiators = chance(8) ? any(0, 9) : any(1, 4);
        for (int r = 0; r < rooms; r++) {
            b.append(clause("room", about(1, 99), about(100, 260)));
        }
        int top = Math.max(0, rooms - 1);
        for (int r = 0; r < rooms; r++) {
            if (chance(2)) {
                b.append(clause("wall", r, (r + 1) % rooms, about(0, 99)));
            }
            if (!chance(4)) {
                b.append(clause("outer", r, any(0, 40)));
            }
            if (chance(2)) {
                b.append(clause("window", any(0, top), any(0, 99)));
            }
            if (chance(4)) {
                int from = any(0, 23);
                b.append(clause("sun", r, any(0, 999), from, any(from + 1, 24)));
            }
        }
        for (int k = 0; k < radiators; k++) {
            b.append(clause("radiator", any(0, top), any(0, 3), any(1, 99)));
            if (!chance(4)) {
                b.append(clause(List.of("snap", "slow", "draught").get(any(0, 2)), k, any(150, 260)));
            }
        }
        if (chance(2)) {
            b.append(clause("pump", about(1, 400)));
        }
        if (chance(2)) {
            b.append(clause("boiler", chance(3) ? any(1, 400) : any(400, 9000), about(200, 900)));
        }
        return b.append(gap()).toString();
    }

    private String aSum(int depth) {
        StringBuilder b = new StringBuilder(gap());
        int terms = any(1, 3);
        for (int i = 0; i < terms; i++) {
            b.append(i == 0 ? "" : List.of("+", "-", "*", "/").get(any(0, 3))).append(gap());
            int kind = any(0, 9);
            if (kind == 0 && depth < 8 || depth > 2 && depth < 6) {
                b.append('(').append(aSum(depth + 1)).append(')');
            } else if (kind < 4) {
                b.append(chance(20) ? 10000 : any(0, 9999));
            } else {
                b.append(List.of("meter", "size", "all", "many", "set").get(any(0, 4)));
            }
            b.append(gap());
        }
        return b.toString();
    }

    private String aClaim(int depth) {
        int kind = any(0, 9);
        if (depth < 7 && kind == 0) {
            return "not " + aClaim(depth + 1);
        }
        if (depth < 7 && kind == 1) {
            return gap() + "[" + aClaim(depth + 1) + "]";
        }
        if (depth < 4 && kind < 5) {
            return aClaim(depth + 1) + (chance(2) ? " or " : " and ") + aClaim(depth + 1);
        }
        int from = chance(12) ? any(0, 47) : any(0, 3);
        int to = chance(20) ? from - 1 : Math.min(48, from + any(0, 2));
        String hours = from + " " + Math.max(0, to);
        switch (any(0, 3)) {
            case 0:
                return "under " + any(0, 3) + " " + any(150, 260) + " " + hours;
            case 1:
                return "over " + any(0, 3) + " " + any(150, 260) + gap() + " " + hours;
            case 2:
                return "opened" + any(0, 3) + " " + hours;
            default:
                return "got " + any(0, 3) + " " + hours + gap();
        }
    }

    private String spoilt(String text) {
        if (text.isEmpty() || !chance(6)) {
            return text;
        }
        int at = random.nextInt(text.length());
        switch (any(0, 3)) {
            case 0:
                return text.substring(0, at);
            case 1:
                return text.substring(0, at) + text.substring(at + 1);
            case 2:
                return text.substring(0, at) + "; ()+[]aroz059\u00e9\t-".charAt(any(0, 16)) + text.substring(at);
            default:
                return text.substring(0, at) + text.substring(random.nextInt(text.length()));
        }
    }

    private void tell(String method, String text) {
        byte[] bytes = text.getBytes(StandardCharsets.ISO_8859_1);
        byte[] whole = Arrays.copyOf(bytes, (bytes.length + 19) / 20 * 20);
        for (int i = 0; i < whole.length; i += 20) {
            Object[] five = new Object[5];
            for (int j = 0; j < 5; j++) {
                int at = i + 4 * j;
                five[j] = (whole[at] & 255) << 24 | (whole[at + 1] & 255) << 16
                        | (whole[at + 2] & 255) << 8 | whole[at + 3] & 255;
            }
            call("feed", five);
        }
        call(method, chance(60) ? about(0, 500) : bytes.length);
        call("fault");
    }

    // ---- calls

    private void play() {
        if (chance(8)) {
            anyCalls(30);
        }
        tell("house", aHouse());
        if (rooms() == 0) {
            tell("house", aHouse());
        }
        anyCalls(any(20, 120));
        sweep();
    }

    private void anyCalls(int many) {
        for (int i = 0; i < many && !differs; i++) {
            switch (any(0, 11)) {
                case 0:
                    settle();
                    break;
                case 1:
                case 2:
                    settle();
                    call("go", chance(20) ? about(0, 999) : any(0, 130));
                    break;
                case 3:
                    dearCall();
                    break;
                case 4:
                    text();
                    break;
                case 5:
                    logCalls();
                    break;
                case 6:
                    call(chance(2) ? "mark" : "back");
                    break;
                default:
                    look();
                    break;
            }
        }
    }

    private void text() {
        switch (any(0, 5)) {
            case 0:
                if (chance(3)) {
                    tell("house", spoilt(aHouse()));
                }
                break;
            case 1:
            case 2:
                tell("words", spoilt(aSum(0)));
                break;
            default:
                tell("claim", spoilt(aClaim(0)));
                call("judge");
                break;
        }
    }

    private void settle() {
        switch (any(0, 10)) {
            case 0:
                call("out", about(0, 23), about(-4000, 4000));
                break;
            case 1:
                for (int h = 0; h < 24; h++) {
                    call("out", h, any(-1500, 1500));
                }
                break;
            case 2:
                call("screw", aRadiator(), about(1, 16));
                break;
            case 3:
            case 4:
                call("open", aRoom(), chance(2));
                break;
            case 5:
                call("air", about(0, 3), chance(3));
                break;
            case 6:
                call("night", about(0, 23), about(0, 23), about(0, 200));
                break;
            case 7:
                call("water", about(0, 23), chance(3) ? 0 : about(200, 900));
                break;
            case 8:
                int from = chance(3) ? about(0, 99999) : any(0, 500);
                call("holiday", from, chance(20) ? extreme() : from + any(-1, 300), about(0, 200));
                break;
            case 9:
                call("pump", about(1, 999));
                break;
            default:
                call("error", aRadiator(), about(-50, 50));
                break;
        }
    }

    private void dearCall() {
        int room = Math.max(0, any(0, Math.max(0, rooms() - 1)));
        int near = rooms() == 0 ? 2000 : oracle.room(room, 1) + any(-300, 300);
        int want = chance(12) ? about(0, 9999) : Math.max(0, near);
        switch (any(0, 3)) {
            case 0:
                if (radiators() <= 3 || chance(4)) {
                    int out = about(-4000, 4000);
                    call("turning", out, want);
                    call("balanced", aRadiator(), out, want);
                }
                break;
            case 1:
                call("wake", about(-4000, 4000), about(-4000, 4000), want);
                break;
            default:
                call("wish", aRadiator(), about(0, 200), about(0, 240), chance(2) ? -1 : aRoom());
                break;
        }
    }

    /** Rows that some things explain, so that CAUSE has something to find. */
    private void logCalls() {
        List<Integer> there = oracle.thingsThere();
        if (oracle.count(0) == 0 && rooms() > 0 && !chance(5)) {
            List<Integer> set = new ArrayList<>();
            for (int i = any(0, 2); i > 0; i--) {
                int thing = there.get(random.nextInt(there.size()));
                if (!set.contains(thing)) {
                    set.add(thing);
                }
            }
            set.sort(null);
            for (int i = any(1, 6); i > 0; i--) {
                int minute = chance(10) ? any(1, 240) : any(1, 60);
                int room = any(0, rooms() - 1);
                call("log", minute, room, oracle.wouldHave(set, minute, room) + any(-3, 3));
            }
        } else if (chance(6)) {
            call("log", about(1, 240), aRoom(), about(-9999, 9999));
        }
        int far = chance(4) ? about(0, 9999) : any(0, 12);
        if (there.size() < 20 || chance(6)) {
            call("cause", far, about(0, 1));
            call("cause", far, 1);
        }
        call("explained", aThing(there), aThing(there), far);
        call("things");
    }

    private int aThing(List<Integer> there) {
        return chance(4) ? about(-1, 49) : chance(3) ? -1 : there.get(random.nextInt(there.size()));
    }

    private void look() {
        switch (any(0, 12)) {
            case 0:
                call("room", aRoom(), about(0, 9));
                break;
            case 1:
                call("radiator", aRadiator(), about(0, 10));
                break;
            case 2:
                call("wall", aRoom(), aRoom());
                break;
            case 3:
                call("clock", about(0, 3));
                call("wear", about(0, 999));
                break;
            case 4:
                call("hunts", chance(2) ? any(1, 4) : about(1, 60));
                break;
            case 5:
                call("part", aRadiator());
                call("pays", aRadiator(), about(0, 1_000_000));
                break;
            case 6:
                call("blame", aRoom());
                break;
            case 7:
                call("diary", aRoom(), chance(3) ? about(0, 47) : any(0, 2), about(0, 6));
                break;
            case 8:
                call("cold", aRoom(), chance(4) ? about(-9999, 9999) : any(1500, 2600), about(-1, 3));
                break;
            case 9:
                call("dead", about(0, 3));
                break;
            case 10:
                call("gauge", about(0, 3), about(0, 9), about(-1, 999));
                call("burst", about(0, 3), about(0, 99));
                break;
            case 11:
                call("count", about(0, 8));
                break;
            default:
                call("told", about(0, 5));
                break;
        }
    }

    /** Everything that can be asked cheaply, so that no difference hides at the end of a run. */
    private void sweep() {
        for (int r = 0; r < rooms(); r++) {
            for (int what = 0; what < 10; what++) {
                call("room", r, what);
            }
            for (int back = 0; back < oracle.count(6); back++) {
                call("diary", r, back, any(0, 6));
            }
            call("blame", r);
            for (int by = -1; by < 4; by++) {
                call("cold", r, any(1500, 2600), by);
            }
            for (int other = 0; other < rooms(); other++) {
                call("wall", r, other);
            }
        }
        for (int k = 0; k < radiators(); k++) {
            for (int what = 0; what <= 10; what++) {
                call("radiator", k, what);
            }
            call("part", k);
            call("pays", k, any(0, 100));
            call("pays", k, any(0, 1_000_000));
        }
        for (int p = 0; p < 4; p++) {
            call("dead", p);
            call("burst", p, any(0, 40));
        }
        for (int what = 0; what < 9; what++) {
            call("count", what);
        }
        for (int often = 1; often < 60; often += 3) {
            call("hunts", often);
        }
        call("wear", 17);
        call("judge");
        for (int i = 0; i < 5; i++) {
            call("back");
            call("clock", 0);
        }
    }
}
