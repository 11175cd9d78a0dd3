import java.util.ArrayList;
import java.util.HashMap;
import java.util.List;
import java.util.Map;

/**
 * Calls that are refused: which exception, or which answer; and that every call behind one answers as if it had not
 * been made. Two objects are made alike, the one is asked in vain, and then both tell all that they can tell.
 */
public final class RefusedCallsTest {
    /** What no call takes for a ROOM, a RADIATOR, a PIPE, or another number. */
    private static final int[] FAR = {Integer.MAX_VALUE, Integer.MAX_VALUE - 1, Integer.MIN_VALUE, Integer.MIN_VALUE + 1};
    private static final String BLANKS = "538976288";
    private static int wrong;
    private static int refused;

    /** How an object is made, and what it has then. */
    private record State(String name, String made, int rooms, int radiators, int tape, int marks) {
    }

    private static final Map<String, List<String>> TOLD = new HashMap<>();

    public static void main(String[] args) {
        State empty = new State("without a HOUSE", noHouse(), 0, 0, 20, 2);
        State rich = new State("two ROOMS, three RADIATORS", rich(), 2, 3, 20, 2);
        State full = new State("all that there may be", full(), 8, 8, 500, 4);
        for (State s : new State[] {empty, rich, full}) {
            texts(s);
            looks(s);
            settings(s);
            pipesAndMinutes(s);
            logAndThings(s);
            trials(s);
            bills(s);
            diaries(s);
        }
        withoutHouse(empty);
        withoutTap(rich);
        whatIsFull(full);
        faults(empty);
        faults(rich);
        firstOfTheList();
        System.out.println(wrong == 0 ? refused + " refused calls change nothing" : wrong + " answers are not as due");
        if (wrong != 0) {
            System.exit(1);
        }
    }

    // ---- states

    private static String words() {
        return "words \"meter*3+size+set+many+all\" = 0 | claim \"got 0 0 0 or not opened 1 0 1\" = 0\n";
    }

    /** "room 7 70;" and blanks, on the TAPE. */
    private static String tapeOfTwenty() {
        return "feed 1919905645 540483383 809181216 " + BLANKS + " " + BLANKS + " = 20\n";
    }

    private static String noHouse() {
        return words() + "out 3 77 = 0 | night 1 2 3 = 0 | water 4 300 = 0 | holiday 5 6 7 = 1 | pump 8 = 100 | air 2 true = false | "
                + "gauge 1 3 500 = -1 | gauge 1 5 400 = -1\n"
                + "mark = 1 | air 3 true = false | pump 9 = 8 | mark = 2 | pump 10 = 9 | house \"pump 10;\" = -6\n" + tapeOfTwenty();
    }

    private static String rich() {
        return words() + "house \"room 10 200;room 9 100;wall 0 1 5;window 0 9;outer 0 9;outer 1 3;sun 1 50 0 24;radiator 0 0 10;slow 0 210;radiator 1 1 10;draught 1 215;radiator 1 2 5;\" = 2\n"
                + "out 0 500 = 0 | out 23 77 = 0 | night 0 3 30 = 0 | water 1 650 = 0 | holiday 10 40 50 = 1 | go 70 = * | mark = 1 | "
                + "open 1 true = false | screw 0 9 = 16 | error 1 7 = 0 | go 55 = *\n"
                + "mark = 2 | holiday 100 200 20 = 2 | pump 90 = 100 | air 2 true = false | gauge 1 3 500 = -1 | gauge 1 5 400 = -1 | "
                + "gauge 3 9 5 = -1 | log 5 0 1990 = 1 | log 60 1 1500 = 2 | log 60 0 2000 = 3 | go 20 = *\n"
                + "claim \"got 0 0 48\" = -8\n" + tapeOfTwenty();
    }

    private static String full() {
        StringBuilder rows = new StringBuilder(words()).append("house \"").append("room 9 200;".repeat(8)).append("radiator 7 3 9;".repeat(8))
                .append("snap 0 210;slow 7 220;wall 0 7 9;outer 7 9;window 0 9;\" = 8\n");
        for (int i = 1; i <= 4; i++) {
            rows.append("go 720 = * | mark = ").append(i).append(" | "
                + "holiday ").append(i).append(" 9999 ").append(i).append(" = ").append(i).append('\n');
        }
        for (int i = 1; i <= 20; i++) {
            rows.append("log ").append(i * 12).append(' ').append(i % 8).append(" 2000 = ").append(i).append('\n');
        }
        for (int i = 1; i <= 25; i++) {
            rows.append("feed ").append(i == 1 ? "1919905645 540483383 809181216 " : BLANKS + " " + BLANKS + " " + BLANKS
                + " ").append(BLANKS).append(' ').append(BLANKS)
                    .append(" = ").append(20 * i).append('\n');
        }
        return rows.append("open 7 true = false | screw 7 5 = 16 | error 7 5 = 0 | gauge 3 9 999 = -1 | gauge 3 0 999 = -1 | "
                + "go 130 = *\n").toString();
    }

    // ---- what an object tells

    private static int[] ends(int many) {
        return many == 0 ? new int[] {0} : many <= 3 ? firstOnes(many) : new int[] {0, many - 1};
    }

    private static int[] firstOnes(int many) {
        int[] numbers = new int[many];
        for (int i = 0; i < many; i++) {
            numbers[i] = i;
        }
        return numbers;
    }

    private static void calls(StringBuilder rows, String call, int first, int last) {
        for (int i = first; i <= last; i++) {
            rows.append(call).append(' ').append(i).append('\n');
        }
    }

    /** All that is there, without a change. */
    private static String now(State s) {
        StringBuilder rows = new StringBuilder("fault | judge | things | hunts 1 | hunts 2 | wear 0 | wear 1\n");
        calls(rows, "count", 0, 8);
        calls(rows, "told", 0, 5);
        calls(rows, "clock", 0, 3);
        calls(rows, "dead", 0, 3);
        for (int room : ends(s.rooms)) {
            calls(rows, "room " + room, 0, 9);
            calls(rows, "diary " + room + " 0", 0, 6);
            calls(rows, "diary " + room + " 1", 0, 1);
            rows.append("diary ").append(room).append(" 47 0 | blame ").append(room).append(" | cold ").append(room).append(" 9999 -1\n");
            rows.append("wall ").append(room).append(' ').append(Math.max(0, s.rooms - 1)).append('\n');
        }
        for (int k : ends(s.radiators)) {
            calls(rows, "radiator " + k, 0, 10);
            rows.append("part ").append(k).append(" | pays ").append(k).append(" 1000 | balanced ").append(k).append(" 0 500 | "
                + "wish ").append(k).append(" 50 30 -1\n");
        }
        for (int pipe = 0; pipe < 4; pipe++) {
            rows.append("burst ").append(pipe).append(" 1\n");
        }
        return rows + "turning 0 500 | wake 0 100 2100 | explained -1 -1 9 | explained -1 -1 500 | explained 20 30 800 | cause 700 0\n";
    }

    /** What was set, by setting it anew. */
    private static String set(State s) {
        StringBuilder rows = new StringBuilder();
        for (int hour = 0; hour < 24; hour++) {
            rows.append("out ").append(hour).append(" 1 | water ").append(hour).append(" 300\n");
        }
        for (int k : ends(s.radiators)) {
            rows.append("screw ").append(k).append(" 5 | error ").append(k).append(" 1\n");
        }
        for (int room : ends(s.rooms)) {
            rows.append("open ").append(room).append(" false\n");
        }
        for (int pipe = 0; pipe < 4; pipe++) {
            rows.append("air ").append(pipe).append(" false\n");
            for (int place = 0; place < 10; place++) {
                rows.append("gauge ").append(pipe).append(' ').append(place).append(" -1\n");
            }
        }
        return rows + "night 3 4 5 | pump 5 | holiday 0 1 1 | log 1 0 0 | mark | count 0 | count 1 | count 7 | go 5 | clock 0\n";
    }

    /** What follows: MINUTES, MARKS one after another, and what stands on the TAPE. */
    private static String later(State s) {
        StringBuilder few = new StringBuilder("clock 0 | clock 1 | count 1 | count 3 | count 4 | count 6 | count 7 | dead 0 | dead 2 | "
                + "wear 5\n");
        for (int room : ends(s.rooms)) {
            few.append("room ").append(room).append(" 1 | room ").append(room).append(" 5 | diary ").append(room).append(" 0 0 | "
                + "diary ").append(room).append(" 0 4\n");
        }
        for (int k : ends(s.radiators)) {
            few.append("radiator ").append(k).append(" 5 | radiator ").append(k).append(" 9 | radiator ").append(k).append(" 6\n");
        }
        StringBuilder rows = new StringBuilder("go 1 | go 61\n").append(few).append("explained -1 -1 500 | judge\n");
        for (int i = 0; i <= s.marks; i++) {
            rows.append("back | pump 50 | night 9 9 9\n").append(few).append("go 3\n");
        }
        return rows + "feed 0 0 0 0 0 | count 2 | house " + s.tape + " | fault | told 0 | room 0 0 | room 0 1 | count 2 | part 0 | judge\n";
    }

    private static List<String> told(State s, String row, String looks) {
        Script script = new Script(s.name);
        script.go(s.made);
        script.go(row);
        wrong += script.wrong();
        return script.answers(looks);
    }

    private static void compare(State s, String row, String instead, String looks) {
        List<String> due = TOLD.computeIfAbsent(s.name + "\n" + instead + "\n" + looks, k -> told(s, instead, looks));
        List<String> got = told(s, row, looks);
        for (int i = 0; i < due.size(); i++) {
            if (!due.get(i).equals(got.get(i))) {
                wrong++;
                System.out.println(s.name + ": behind " + row + ": " + got.get(i) + ", due is " + due.get(i));
                return;
            }
        }
    }

    /** Rows of calls that are refused, each by itself. */
    private static void refuses(State s, String... rows) {
        for (String several : rows) {
            for (String row : several.split("\\|")) {
                refused++;
                compare(s, row, "", now(s));
                compare(s, row, "", set(s));
                compare(s, row, "", later(s));
            }
        }
    }

    /** A call with one argument that is beyond its bounds; V stands for it. */
    private static void bounds(State s, String call, int least, int most, String due) {
        refuses(s, call.replace("V", String.valueOf(least - 1)) + " = " + due, call.replace("V", String.valueOf(most + 1)) + " = " + due);
        for (int v : FAR) {
            // far beyond is looked at alone: what such a call changes is looked at just beyond
            Script script = new Script(s.name);
            script.go(s.made + call.replace("V", String.valueOf(v)) + " = " + due);
            wrong += script.wrong();
        }
    }

    /** As bounds, but NONE is taken too. */
    private static void boundsAndNone(State s, String call, int most, String due) {
        bounds(s, call, -1, most, due);
    }

    // ---- calls

    private static void texts(State s) {
        bounds(s, "house V", 0, s.tape, "IAE");
        bounds(s, "words V", 0, Math.min(200, s.tape), "IAE");
        bounds(s, "claim V", 0, Math.min(200, s.tape), "IAE");
    }

    private static void looks(State s) {
        bounds(s, "told V", 0, 5, "IAE");
        bounds(s, "clock V", 0, 3, "IAE");
        bounds(s, "hunts V", 1, 60, "IAE");
        bounds(s, "wear V", 0, 999, "IAE");
        bounds(s, "dead V", 0, 3, "IAE");
        bounds(s, "room V 1", 0, s.rooms - 1, "IOOBE");
        bounds(s, "wall V 0", 0, s.rooms - 1, "IOOBE");
        bounds(s, "wall 0 V", 0, s.rooms - 1, "IOOBE");
        bounds(s, "blame V", 0, s.rooms - 1, "IOOBE");
        bounds(s, "radiator V 5", 0, s.radiators - 1, "NSEE");
        bounds(s, "part V", 0, s.radiators - 1, "NSEE");
        if (s.rooms > 0) {
            bounds(s, "room 0 V", 0, 9, "IAE");
            bounds(s, "radiator 0 V", 0, 10, "IAE");
        }
    }

    private static void settings(State s) {
        bounds(s, "out V 5", 0, 23, "IAE");
        bounds(s, "out 5 V", -4_000, 4_000, "IAE");
        bounds(s, "water V 300", 0, 23, "IAE");
        bounds(s, "water 5 V", 0, 900, "IAE");
        refuses(s, "water 5 1 = IAE | water 5 199 = IAE");
        bounds(s, "night V 5 5", 0, 23, "IAE");
        bounds(s, "night 5 V 5", 0, 23, "IAE");
        bounds(s, "night 5 5 V", 0, 200, "IAE");
        bounds(s, "pump V", 1, 999, "IAE");
        bounds(s, "open V true", 0, s.rooms - 1, "IOOBE");
        bounds(s, "open V false", 0, s.rooms - 1, "IOOBE");
        bounds(s, "screw V 5", 0, s.radiators - 1, "NSEE");
        bounds(s, "error V 5", 0, s.radiators - 1, "NSEE");
        if (s.radiators > 0) {
            bounds(s, "screw 0 V", 1, 16, "IAE");
            bounds(s, "error 0 V", -50, 50, "IAE");
        }
    }

    private static void pipesAndMinutes(State s) {
        bounds(s, "air V true", 0, 3, "IAE");
        bounds(s, "air V false", 0, 3, "IAE");
        bounds(s, "gauge V 5 5", 0, 3, "IAE");
        bounds(s, "gauge 1 V 5", 0, 9, "IAE");
        boundsAndNone(s, "gauge 1 3 V", 999, "IAE");
        bounds(s, "burst V 5", 0, 3, "IAE");
        bounds(s, "burst 1 V", 0, 99, "IAE");
        bounds(s, "go V", 0, 999, "IAE");
        bounds(s, "holiday V 99999 5", 0, 99_998, "IAE");
        bounds(s, "holiday 5 V 5", 6, 99_999, "IAE");
        bounds(s, "holiday 5 9 V", 0, 200, "IAE");
        refuses(s, "holiday 5 4 5 = IAE | holiday 0 0 0 = IAE | holiday 99999 100000 5 = IAE");
    }

    private static void logAndThings(State s) {
        bounds(s, "log 5 V 5", 0, s.rooms - 1, "IOOBE");
        bounds(s, "cause V 0", 0, 9_999, "IAE");
        boundsAndNone(s, "cause 5 V", 1, "IAE");
        bounds(s, "explained -1 -1 V", 0, 9_999, "IAE");
        refuses(s, "cause 5 -1 = IAE | explained -2 -1 5 = IAE | explained -1 -2 5 = IAE | explained 19 -1 5 = IAE | "
                + "explained 24 -1 5 = IAE | explained -1 19 5 = IAE | explained 20 24 5 = IAE",
                "explained 38 -1 5 = IAE | explained -1 47 5 = IAE | explained 50 -1 5 = IAE | explained 8 20 5 = IAE | "
                + "explained 18 20 5 = IAE");
        if (s.rooms > 0) {
            bounds(s, "log V 0 5", 1, 240, "IAE");
            bounds(s, "log 5 0 V", -9_999, 9_999, "IAE");
        }
    }

    private static void trials(State s) {
        bounds(s, "turning V 5", -4_000, 4_000, "IAE");
        bounds(s, "turning 5 V", 0, 9_999, "IAE");
        bounds(s, "wake V 5 5", -4_000, 4_000, "IAE");
        bounds(s, "wake 5 V 5", -4_000, 4_000, "IAE");
        bounds(s, "wake 5 5 V", 0, 9_999, "IAE");
        bounds(s, "balanced V 5 5", 0, s.radiators - 1, "NSEE");
        bounds(s, "wish V 5 5 -1", 0, s.radiators - 1, "NSEE");
        if (s.radiators > 0) {
            bounds(s, "balanced 0 V 5", -4_000, 4_000, "IAE");
            bounds(s, "balanced 0 5 V", 0, 9_999, "IAE");
            boundsAndNone(s, "wish 0 5 5 V", s.rooms - 1, "IOOBE");
            bounds(s, "wish 0 V 5 0", 0, 200, "IAE");
            bounds(s, "wish 0 5 V 0", 0, 240, "IAE");
        }
    }

    private static void bills(State s) {
        bounds(s, "pays V 5", 0, s.radiators - 1, "NSEE");
        if (s.radiators > 0) {
            bounds(s, "pays 0 V", 0, 1_000_000, "IAE");
        }
    }

    private static void diaries(State s) {
        bounds(s, "diary V 0 0", 0, s.rooms - 1, "IOOBE");
        bounds(s, "cold V 5 0", 0, s.rooms - 1, "IOOBE");
        if (s.rooms > 0) {
            int whole = s.rooms == 8 ? 48 : 2;
            bounds(s, "diary 0 V 0", 0, whole - 1, "IAE");
            bounds(s, "diary 0 0 V", 0, 6, "IAE");
            bounds(s, "cold 0 V 0", -9_999, 9_999, "IAE");
            boundsAndNone(s, "cold 0 5 V", 3, "IAE");
        }
    }

    private static void withoutHouse(State s) {
        refuses(s, "go 0 = ISE | go 1 = ISE | go 999 = ISE | explained -1 -1 0 = ISE | explained 20 23 9999 = ISE | cause 0 0 = ISE | "
                + "cause 9999 1 = ISE | turning 0 0 = ISE | wake 0 0 0 = ISE",
                "room 0 0 = IOOBE | wall 0 0 = IOOBE | radiator 0 0 = NSEE | screw 0 5 = NSEE | open 0 true = IOOBE | log 5 0 5 = IOOBE | "
                + "balanced 0 0 0 = NSEE | wish 0 0 0 -1 = NSEE | wish 0 0 0 0 = NSEE",
                "error 0 0 = NSEE | part 0 = NSEE | pays 0 0 = NSEE | blame 0 = IOOBE | diary 0 0 0 = IOOBE | cold 0 0 0 = IOOBE | "
                + "explained 0 -1 0 = IAE | explained 30 -1 0 = IAE | explained 40 -1 0 = IAE");
    }

    private static void withoutTap(State s) {
        refuses(s, "wish 2 5 5 0 = IAE | wish 2 0 0 -1 = IAE | explained 2 -1 5 = IAE | explained 12 -1 5 = IAE | "
                + "explained 41 -1 5 = IAE | explained 3 -1 5 = IAE | explained 32 -1 5 = IAE");
    }

    private static void whatIsFull(State s) {
        refuses(s, "feed 1 2 3 4 5 = -1 | feed -1 -1 -1 -1 -1 = -1 | log 5 0 5 = -1 | log 240 7 9999 = -1 | log 1 0 -9999 = -1 | "
                + "holiday 0 9 200 = -1 | holiday 99998 99999 0 = -1 | mark = -1");
        State none = new State("with no MARK", "house \"room 1 200;radiator 0 0 5;\" = 1 | go 7 = *\n" + tapeOfTwenty(), 1, 1, 20, 0);
        refuses(none, "back = -1");
    }

    /** A text with a FAULT leaves all but the TAPE and the FAULT's place as it was: so a claim with a FAULT is played instead. */
    private static void faults(State s) {
        String claim = "claim 0 = -9 | claim \"?\" = -9";
        String[] rows = {"house \"?\" = -9", "words \"?\" = -9", "house \"? room 1 1;\" = -9"};
        for (String row : rows) {
            refused++;
            for (String looks : new String[] {now(s), set(s), later(s).replace("house " + s.tape, "house 0")}) {
                compare(s, "claim 0 = -9 | " + row, claim, looks);
            }
        }
        String[] others = {"house \"room 1 1;room 2 2;radiator 1 3 9;slow 0 5;pump 7;boiler 8 300;room 0 0;\" = -8",
                "house \"" + "room 1 1;".repeat(9) + "\" = -7", "house \"pump 7;\" = -6",
            "words \"1+1+10000\" = -8", "words \"5*(((((((\" = -7", "words \"5+5+\" = -9", "claim \"opened 0 0 0 or got 9 0 0\" = -8",
                "claim \"[[[[[[[got 0 0 0]]]]]]]\" = -7", "claim \"opened 0 0 0 and\" = -9"};
        for (String row : others) {
            refused++;
            for (String looks : new String[] {now(s).replace("fault |", ""), set(s), later(s).replace("house " + s.tape, "house 0")}) {
                compare(s, "claim 0 = -9 | " + row, claim, looks);
            }
        }
    }

    /** Of several things that are wrong, the one that stands first in the face's list is thrown. */
    private static void firstOfTheList() {
        wrong += Script.play("what is thrown first", "go 1000 = IAE | explained 99 -1 0 = IAE | explained -1 -1 10000 = IAE | "
                + "cause -1 0 = IAE | cause 0 2 = IAE | turning 4001 0 = IAE | turning 0 10000 = IAE\n"
                + "wake 0 4001 0 = IAE | wake 0 0 -1 = IAE | balanced 0 4001 -1 = NSEE | wish 0 201 241 5 = NSEE | "
                + "log 0 0 10000 = IOOBE | room 0 10 = IOOBE | radiator 0 11 = NSEE\n"
                + "house \"room 1 1;radiator 0 0 1;\" = 1 | room 1 10 = IOOBE | radiator 1 11 = NSEE | screw 1 17 = NSEE | "
                + "log 0 1 10000 = IOOBE | balanced 1 4001 -1 = NSEE\n"
                + "wish 1 201 241 5 = NSEE | wish 0 201 241 5 = IOOBE | wish 0 201 241 0 = IAE | error 1 51 = NSEE | pays 1 -1 = NSEE | "
                + "diary 1 9 9 = IOOBE | cold 1 10000 9 = IOOBE\n");
    }
}
