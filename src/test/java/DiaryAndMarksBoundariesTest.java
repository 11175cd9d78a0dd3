/** The boundaries that the document names for the DIARY, PIPES, GAUGES, HOLIDAYS, WEAR, MARKS: Terms 5, promises 26 to 43. */
public final class DiaryAndMarksBoundariesTest {
    private static final Sentences S = new Sentences();
    private static final int MOST = Integer.MAX_VALUE;
    private static final int LEAST = Integer.MIN_VALUE;
    /** Behind each MINUTE it has one hundredth more. */
    private static final String RISING = "new | house \"room 1 0;sun 0 1 0 24;\" = 1\n";

    public static void main(String[] args) {
        wholeHours();
        latest48();
        leastAndGreatest();
        minutesOpen();
        sums();
        diaryArguments();
        coldBelow();
        coldByTheWindow();
        coldByNothingGot();
        coldByWalls();
        coldArguments();
        blame();
        dead();
        holidays();
        gauges();
        burst();
        wear();
        errors();
        fourMarks();
        marksKeep();
        marksKeepNot();
        beginsAnew();
        counts();
        S.end();
    }

    private static void wholeHours() {
        S.says("DIARY: of each whole HOUR that went by", RISING + "count 6 = 0 | diary 0 0 0 = IAE | go 59 = 0 | count 6 = 0 | "
                + "diary 0 0 0 = IAE | go 1 = 0 | count 6 = 1 | diary 0 0 0 = 1 | diary 0 0 1 = 60",
                "go 1 = 0 | count 6 = 1 | diary 0 0 1 = 60 | go 58 = 0 | count 6 = 1 | diary 0 1 0 = IAE | go 1 = 0 | count 6 = 2 | "
                + "diary 0 0 0 = 61 | diary 0 0 1 = 120 | diary 0 1 0 = 1 | diary 0 2 0 = IAE",
                RISING + "go 119 = 0 | count 6 = 1 | diary 0 0 0 = 1 | go 2 = 0 | count 6 = 2 | diary 0 0 0 = 61");
        S.says("HOURS are told by how far back they are: 0 the latest whole one",
                RISING + "go 180 = 0 | diary 0 0 0 = 121 | diary 0 1 0 = 61 | diary 0 2 0 = 1 | diary 0 3 0 = IAE | diary 0 -1 0 = IAE");
    }

    private static void latest48() {
        String day = "go 720 = 0 | go 720 = 0\n";
        S.says("(the latest 48 stay)", RISING + day + "count 6 = 24 | go 960 = 0 | go 420 = 0 | count 6 = 47 | diary 0 46 0 = 1 | "
                + "diary 0 47 0 = IAE | diary 0 0 1 = 2820",
                "go 59 = 0 | count 6 = 47 | go 1 = 0 | count 6 = 48 | diary 0 47 0 = 1 | diary 0 46 0 = 61 | diary 0 0 1 = 2880 | "
                + "diary 0 48 0 = IAE",
                "go 59 = 0 | diary 0 47 0 = 1 | go 1 = 0 | count 6 = 48 | diary 0 47 0 = 61 | diary 0 48 0 = IAE | diary 0 0 0 = 2881 | "
                + "diary 0 0 1 = 2940 | go 60 = 0 | count 6 = 48 | diary 0 47 0 = 121 | diary 0 0 1 = 3000",
                day + day + "count 6 = 48 | diary 0 0 1 = 5880 | diary 0 47 0 = 3001 | diary 0 47 1 = 3060 | diary 0 1 1 = 5820 | "
                + "cold 0 9999 -1 = 48 | cold 0 3001 -1 = 0 | cold 0 3002 -1 = 1");
        StringBuilder all = new StringBuilder();
        for (int back = 0; back < 48; back++) {
            all.append("diary 0 ").append(back).append(" 0 = ").append(60 * (49 - back) + 1).append(" | "
                + "diary 0 ").append(back).append(" 1 = ").append(60 * (50 - back)).append('\n');
        }
        S.says("(the latest 48 stay), each of them", RISING + day + day + "go 120 = 0 | count 6 = 48\n" + all);
    }

    private static void leastAndGreatest() {
        S.says("the LEAST and the GREATEST TEMPERATURE behind its MINUTES",
                RISING + "go 120 = 0 | diary 0 0 0 = 61 | diary 0 0 1 = 120 | diary 0 1 0 = 1 | diary 0 1 1 = 60",
                // it falls: the last MINUTE has the LEAST, and what it had ahead of the first one does not count
                "new | house \"room 1 100;outer 0 1;\" = 1 | go 1 = 0 | room 0 1 = 990 | go 59 = 0 | room 0 1 = @end | "
                + "diary 0 0 0 = @end | diary 0 0 1 = 990",
                // all at one: both bounds, and below 0
                "new | house \"room 1 400;sun 0 999 0 24;\" = 1 | go 120 = 0 | diary 0 0 0 = 9999 | diary 0 0 1 = 9999 | "
                + "diary 0 1 0 = 4999 | diary 0 1 1 = 9999",
                "new | house \"room 1 0;window 0 99;\" = 1 | out 0 -4000 = 0 | open 0 true = false | go 1 = 0 | room 0 1 = -3960 | "
                + "open 0 false = true | go 119 = 0 | diary 0 0 0 = -3960 | diary 0 0 1 = -3960 | diary 0 1 1 = -3960",
                "new | house \"room 1 400;outer 0 99;window 0 99;\" = 1 | out 0 -4000 = 0 | open 0 true = false | go 1 = 0 | "
                + "open 0 false = true | go 59 = 0 | diary 0 0 0 = -9999 | room 0 1 = -4001 | diary 0 0 1 = -4001");
    }

    private static void minutesOpen() {
        String two = "new | house \"room 1 0;room 1 0;\" = 2\n";
        S.says("MINUTES in which its window was open", two + "go 60 = 0 | diary 0 0 2 = 0",
                two + "open 0 true = false | go 1 = 0 | open 0 false = true | go 59 = 0 | diary 0 0 2 = 1 | diary 1 0 2 = 0",
                two + "go 59 = 0 | open 0 true = false | go 1 = 0 | diary 0 0 2 = 1 | go 60 = 0 | diary 0 0 2 = 60 | diary 0 1 2 = 1 | "
                + "diary 1 0 2 = 0",
                two + "open 1 true = false | go 59 = 0 | open 1 false = true | go 1 = 0 | diary 1 0 2 = 59 | diary 0 0 2 = 0",
                two + "open 0 true = false | open 0 false = true | go 60 = 0 | diary 0 0 2 = 0",
                "new | house \"" + "room 1 0;".repeat(8) + "\" = 8 | open 7 true = false | go 7 = 0 | open 7 false = true | go 53 = 0 | "
                + "diary 7 0 2 = 7 | diary 6 0 2 = 0");
    }

    private static void sums() {
        // losses of 10 and 20 a MINUTE do not move 99 of MASS
        String house = "new | house \"room 99 100;room 99 0;wall 0 1 1;outer 0 2;window 0 3;radiator 0 0 99;boiler 1 900;\" = 2\n";
        S.says("HEATS that it GOT, what it lost through walls, outer, window, together",
                house + "open 0 true = false | go 60 = 60 | diary 0 0 3 = 60 | diary 0 0 4 = 600 | diary 0 0 5 = 1200 | "
                + "diary 0 0 6 = 1800 | diary 1 0 4 = -600 | diary 1 0 5 = 0 | diary 1 0 3 = 0",
                // the next HOUR begins with nothing
                "open 0 false = true | air 0 true = false | go 60 = 0 | diary 0 0 3 = 0 | diary 0 0 4 = 600 | diary 0 0 6 = 0 | "
                + "diary 0 1 6 = 1800 | diary 0 1 3 = 60",
                house + "go 59 = 59 | air 0 true = false | go 1 = 0 | diary 0 0 3 = 59 | go 59 = 0 | air 0 false = true | go 1 = 1 | "
                + "diary 0 0 3 = 1");
    }

    private static void diaryArguments() {
        S.says("diary: IllegalArgumentException: no such HOUR in the DIARY, or another what",
                RISING + "go 60 = 0 | diary 0 0 0 = 1 | diary 0 0 6 = 0 | diary 0 0 7 = IAE | diary 0 0 -1 = IAE | diary 0 1 0 = IAE | "
                + "diary 0 -1 0 = IAE",
                "diary 0 " + MOST + " 0 = IAE | diary 0 " + LEAST + " 0 = IAE | diary 0 0 " + MOST + " = IAE | diary 0 0 " + LEAST
                + " = IAE | diary 0 48 0 = IAE | diary 0 47 0 = IAE");
        S.says("diary: IndexOutOfBoundsException: no such ROOM", "diary 0 0 0 = IOOBE",
                RISING + "go 60 = 0 | diary 1 0 0 = IOOBE | diary -1 0 0 = IOOBE | diary " + MOST + " 0 0 = IOOBE | diary " + LEAST
                + " 0 0 = IOOBE",
                "new | house \"" + "room 1 0;".repeat(8) + "\" = 8 | go 60 = 0 | diary 7 0 0 = 0 | diary 8 0 0 = IOOBE");
    }

    private static void coldBelow() {
        S.says("COLD is an HOUR of a ROOM, if LEAST is below a told TEMPERATURE",
                "house \"room 1 200;\" = 1 | cold 0 9999 -1 = 0 | go 59 = 0 | cold 0 9999 -1 = 0 | go 1 = 0 | cold 0 1999 -1 = 0 | "
                + "cold 0 2000 -1 = 0 | cold 0 2001 -1 = 1",
                "go 60 = 0 | cold 0 2001 -1 = 2 | cold 0 2000 -1 = 0",
                RISING + "go 180 = 0 | cold 0 1 -1 = 0 | cold 0 2 -1 = 1 | cold 0 61 -1 = 1 | cold 0 62 -1 = 2 | cold 0 121 -1 = 2 | "
                + "cold 0 122 -1 = 3",
                "new | house \"room 1 400;outer 0 99;window 0 99;\" = 1 | out 0 -4000 = 0 | open 0 true = false | go 1 = 0 | "
                + "open 0 false = true | go 59 = 0 | diary 0 0 0 = -9999 | cold 0 -9999 -1 = 0 | cold 0 -9998 -1 = 1",
                "new | house \"room 1 400;sun 0 999 0 24;\" = 1 | go 120 = 0 | cold 0 9999 -1 = 1 | cold 0 9998 -1 = 1 | "
                + "cold 0 5000 -1 = 1 | cold 0 4999 -1 = 0");
    }

    private static void coldByTheWindow() {
        for (int open : new int[] {0, 1, 9, 10, 11, 60}) {
            StringBuilder rows = new StringBuilder("house \"room 1 200;\" = 1 | open 0 true = false | go " + open + " = 0 | "
                + "open 0 false = true | go " + (60 - open) + " = 0\n");
            for (int by = 0; by <= 3; by++) {
                rows.append("cold 0 2001 ").append(by).append(" = ").append(by == (open >= 10 ? 3 : 2) ? 1 : 0).append('\n');
            }
            S.says("COLD: by 3, if its window was open for 10 MINUTES or more",
                rows + "cold 0 2001 -1 = 1 | cold 0 2000 3 = 0 | cold 0 2000 2 = 0");
        }
        S.says("COLD: by 3 .. whatever else", "house \"room 99 200;radiator 0 0 99;boiler 1 900;\" = 1 | open 0 true = false | "
                + "go 10 = 10 | open 0 false = true | go 50 = 50 | cold 0 2001 3 = 1 | cold 0 2001 2 = 0 | cold 0 2001 0 = 0 | "
                + "cold 0 2001 -1 = 1");
    }

    private static void coldByNothingGot() {
        String house = "new | house \"room 99 200;radiator 0 0 99;boiler 1 900;\" = 1 | air 0 true = false\n";
        S.says("COLD: else 2, if it GOT nothing", house + "go 60 = 0 | diary 0 0 3 = 0 | cold 0 2001 2 = 1 | cold 0 2001 0 = 0 | "
                + "cold 0 2001 1 = 0",
                house + "go 59 = 0 | air 0 false = true | go 1 = 1 | diary 0 0 3 = 1 | cold 0 2001 2 = 0 | cold 0 2001 0 = 1 | "
                + "cold 0 2001 1 = 0 | cold 0 2001 3 = 0",
                // though it lost more through walls, and sun is no HEAT that it GOT
                "new | house \"room 99 100;room 99 0;wall 0 1 1;sun 0 5 0 24;\" = 2 | go 60 = 0 | diary 0 0 4 = 600 | cold 0 9999 2 = 1 | "
                + "cold 0 9999 1 = 0");
    }

    /** Both lose 600 in the HOUR, but for one MINUTE in which OUT is told anew. */
    private static void coldByWalls() {
        String house = "new | house \"room 99 100;room 99 0;wall 0 1 1;outer 0 1;radiator 0 0 99;boiler 1 900;\" = 2\n";
        S.says("COLD: else 1, if it lost more through walls than outer; else 0",
                house + "go 60 = 60 | diary 0 0 4 = 600 | diary 0 0 5 = 600 | cold 0 9999 0 = 1 | cold 0 9999 1 = 0",
                house + "out 0 100 = 0 | go 1 = 1 | out 0 0 = 100 | go 59 = 59 | diary 0 0 4 = 600 | diary 0 0 5 = 599 | "
                + "cold 0 9999 1 = 1 | cold 0 9999 0 = 0 | cold 0 9999 -1 = 1",
                house + "out 0 -100 = 0 | go 1 = 1 | out 0 0 = -100 | go 59 = 59 | diary 0 0 4 = 600 | diary 0 0 5 = 601 | "
                + "cold 0 9999 0 = 1 | cold 0 9999 1 = 0",
                // what the window lost is not asked for
                "new | house \"room 99 100;room 99 0;wall 0 1 1;window 0 8;radiator 0 0 99;boiler 1 900;\" = 2 | open 0 true = false | "
                + "go 9 = 9 | open 0 false = true | go 51 = 51 | diary 0 0 6 = 720 | cold 0 9999 1 = 1");
    }

    private static void coldArguments() {
        S.says("cold: a TEMPERATURE (-9,999 to 9,999) and a reason (0 to 3); with NONE: by any",
                RISING + "go 60 = 0 | cold 0 -9999 -1 = 0 | cold 0 9999 -1 = 1 | cold 0 -10000 -1 = IAE | cold 0 10000 -1 = IAE | "
                + "cold 0 0 -2 = IAE | cold 0 0 4 = IAE | cold 0 0 3 = 0 | cold 0 0 0 = 0",
                "cold 0 " + MOST + " 0 = IAE | cold 0 " + LEAST + " 0 = IAE | cold 0 0 " + MOST + " = IAE | cold 0 0 " + LEAST
                + " = IAE | cold 1 0 0 = IOOBE | cold -1 0 0 = IOOBE | cold " + MOST + " 0 0 = IOOBE",
                "new | cold 0 0 0 = IOOBE | house \"" + "room 1 0;".repeat(8) + "\" = 8 | go 60 = 0 | cold 7 1 -1 = 1 | "
                + "cold 8 1 -1 = IOOBE");
    }

    private static void blame() {
        String house = "new | house \"room 99 100;room 99 0;wall 0 1 ";
        S.says("blame: (of alike ones the first)", house + "5;outer 0 5;window 0 5;\" = 2 | open 0 true = false | go 1 = 0 | "
                + "blame 0 = 0", house + "4;outer 0 5;window 0 5;\" = 2 | open 0 true = false | go 1 = 0 | blame 0 = 1",
                house + "4;outer 0 4;window 0 5;\" = 2 | open 0 true = false | go 1 = 0 | blame 0 = 2",
                house + "5;outer 0 4;window 0 5;\" = 2 | open 0 true = false | go 1 = 0 | blame 0 = 0",
                house + "6;outer 0 5;window 0 5;\" = 2 | open 0 true = false | go 1 = 0 | blame 0 = 0",
                house + "5;outer 0 6;window 0 5;\" = 2 | open 0 true = false | go 1 = 0 | blame 0 = 1",
                house + "5;outer 0 5;window 0 6;\" = 2 | open 0 true = false | go 1 = 0 | blame 0 = 2 | open 0 false = true | "
                + "blame 0 = 2 | go 1 = 0 | blame 0 = 0");
        S.says("blame: NONE: all are 0 or below", house + "5;outer 0 5;\" = 2 | blame 0 = -1 | go 1 = 0 | blame 0 = 0 | blame 1 = -1",
                "new | house \"room 99 0;outer 0 1;\" = 1 | out 0 100 = 0 | go 1 = 0 | room 0 6 = -1 | blame 0 = -1",
                "out 0 -99 = 100 | go 1 = 0 | room 0 6 = 0 | blame 0 = -1 | out 0 -100 = -99 | go 1 = 0 | room 0 6 = 1 | blame 0 = 1",
                "new | house \"room 99 1;room 99 0;wall 0 1 10;outer 0 50;\" = 2 | out 0 4000 = 0 | go 1 = 0 | room 0 5 = 1 | "
                + "blame 0 = 0 | blame 1 = -1",
                "blame 2 = IOOBE | blame -1 = IOOBE | blame " + MOST + " = IOOBE | blame " + LEAST + " = IOOBE | new | blame 0 = IOOBE");
    }

    private static void dead() {
        String pipe = "new | house \"room 99 0;radiator 0 0 1;\" = 1\n";
        S.says("DEAD of a PIPE: MINUTES since water of 600 tenths or more FLOWED",
                pipe + "dead 0 = 0 | water 0 599 = 0 | go 1 = * | dead 0 = 1 | go 4 = * | dead 0 = 5 | water 0 600 = 599 | go 1 = * | "
                + "dead 0 = 0 | water 0 601 = 600 | go 1 = * | dead 0 = 0",
                "water 0 599 = 601 | go 1 = * | dead 0 = 1 | go 1 = * | dead 0 = 2 | water 0 0 = 599 | go 1 = * | dead 0 = 0",
                "new | house \"room 99 0;radiator 0 0 1;boiler 9 599;\" = 1 | go 3 = * | dead 0 = 3 | new | "
                + "house \"room 99 0;radiator 0 0 1;boiler 9 600;\" = 1 | go 3 = * | dead 0 = 0");
        S.says("DEAD: FLOWED in some RADIATOR on it (0 in such a one)",
                "new | house \"room 99 100;radiator 0 2 1;snap 0 0;radiator 0 2 1;pump 1;\" = 1 | go 2 = 0 | radiator 1 7 = 1 | "
                + "dead 2 = 0 | dead 0 = 2 | air 2 true = false | go 1 = 0 | dead 2 = 1 | dead 0 = 3",
                // a FLOW of 0 is none, though it is OPEN; a FLOW that heats nothing is one
                "new | house \"room 99 100;radiator 0 2 1;radiator 0 3 1;pump 1;\" = 1 | go 5 = 0 | dead 2 = 5 | dead 3 = 5 | "
                + "pump 2 = 1 | go 1 = 0 | radiator 0 7 = 1 | dead 2 = 0 | dead 3 = 0 | dead 1 = 6");
        S.says("DEAD: MINUTES that went by, if it never did", "dead 0 = 0 | dead 3 = 0",
                pipe + "dead 3 = 0 | go 1 = * | dead 3 = 1 | go 999 = * | dead 3 = 1000 | dead 0 = 0 | dead 1 = 1000 | dead 2 = 1000");
        S.says("dead: IllegalArgumentException: no such PIPE", "dead -1 = IAE | dead 4 = IAE | dead 0 = 0 | dead 3 = 0 | dead " + MOST
                + " = IAE | dead " + LEAST + " = IAE");
    }

    private static void holidays() {
        S.says("HOLIDAYS, 4 at most; holiday: how many there are; -1: there are 4",
                "count 7 = 0 | holiday 0 1 0 = 1 | holiday 0 1 0 = 2 | holiday 0 1 0 = 3 | count 7 = 3 | holiday 0 1 0 = 4 | "
                + "holiday 0 1 200 = -1 | count 7 = 4 | holiday 0 1 200 = -1 | holiday 1 1 0 = IAE",
                // the fifth takes nothing off
                "new | house \"room 1 200;radiator 0 0 1;snap 0 210;pump 1;\" = 1 | holiday 5 6 200 = 1 | holiday 5 6 200 = 2 | "
                + "holiday 5 6 200 = 3 | holiday 6 7 200 = 4 | holiday 0 9 200 = -1 | go 1 = 0 | radiator 0 5 = 16 | go 4 = 0 | "
                + "radiator 0 5 = 16 | go 1 = 0 | radiator 0 5 = 0",
                "house \"room 1 1;\" = 1 | count 7 = 0 | holiday 0 1 1 = 1");
        S.says("holiday: IllegalArgumentException: the MINUTES, the second one not above the first, or tenths (0 to 200)",
                "holiday 0 0 0 = IAE | holiday 0 1 0 = 1 | holiday 5 4 0 = IAE | holiday 5 5 0 = IAE | holiday 5 6 0 = 2 | "
                + "holiday -1 5 0 = IAE | holiday 99998 99999 200 = 3",
                "holiday 99999 99999 0 = IAE | holiday 99999 100000 0 = IAE | holiday 0 100000 0 = IAE | holiday 0 5 -1 = IAE | "
                + "holiday 0 5 201 = IAE | holiday " + MOST + " " + LEAST + " 0 = IAE | holiday " + LEAST + " 5 0 = IAE | holiday 5 "
                + MOST + " 0 = IAE | holiday 0 5 " + MOST + " = IAE",
                "count 7 = 3 | holiday 0 99999 0 = 4 | count 7 = 4");
    }

    private static void gauges() {
        StringBuilder all = new StringBuilder();
        for (int i = 0; i < 40; i++) {
            all.append("gauge ").append(i / 10).append(' ').append(i % 10).append(' ').append(i + 1).append(" = -1 | "
                + "count 8 = ").append(i + 1).append('\n');
        }
        for (int i = 0; i < 40; i++) {
            all.append("gauge ").append(i / 10).append(' ').append(i % 10).append(" -1 = ").append(i + 1).append(" | "
                + "count 8 = ").append(39 - i).append('\n');
        }
        S.says("GAUGES on a PIPE, at places 0 to 9", all.toString());
        S.says("GAUGES: pressures 0 to 999; gauge: what it showed (NONE: none)",
                "gauge 0 0 0 = -1 | count 8 = 1 | gauge 0 0 1 = 0 | gauge 0 0 998 = 1 | gauge 0 0 999 = 998 | gauge 0 0 1000 = IAE | "
                + "gauge 0 0 -2 = IAE | gauge 0 0 -1 = 999 | count 8 = 0 | gauge 0 0 -1 = -1 | gauge 0 0 5 = -1");
        S.says("gauge: IllegalArgumentException: the PIPE, place, or pressure",
                "gauge -1 0 0 = IAE | gauge 4 0 0 = IAE | gauge 0 -1 0 = IAE | gauge 0 10 0 = IAE | gauge " + MOST + " 0 0 = IAE | "
                + "gauge 0 " + LEAST + " 0 = IAE | gauge 0 0 " + MOST + " = IAE | gauge 0 0 " + LEAST + " = IAE",
                "count 8 = 0 | gauge 3 9 7 = -1 | count 8 = 1 | gauge 3 10 7 = IAE | gauge 4 9 7 = IAE");
    }

    private static void burst() {
        S.says("BURST: pressure falls most beyond norm times how far they are apart (above 0)",
                "burst 0 0 = -1 | gauge 0 0 500 = -1 | burst 0 0 = -1 | gauge 0 3 440 = -1 | burst 0 0 = 0 | burst 0 19 = 0 | "
                + "burst 0 20 = -1 | burst 0 21 = -1",
                "gauge 0 3 439 = 440 | burst 0 20 = 0 | gauge 0 3 441 = 439 | burst 0 20 = -1 | gauge 0 3 500 = 441 | burst 0 0 = -1 | "
                + "gauge 0 3 501 = 500 | burst 0 0 = -1 | gauge 0 3 499 = 501 | burst 0 0 = 0 | burst 0 1 = -1",
                // the farthest of all
                "gauge 3 0 999 = -1 | gauge 3 9 0 = -1 | burst 3 0 = 0 | burst 3 99 = 0 | gauge 3 9 108 = 0 | burst 3 99 = -1 | "
                + "gauge 3 9 107 = 108 | burst 3 99 = 0 | gauge 3 8 999 = -1 | burst 3 0 = 8 | gauge 3 0 -1 = 999 | burst 3 99 = 8");
        S.says("BURST: between the two next GAUGES", "gauge 1 0 900 = -1 | gauge 1 2 800 = -1 | gauge 1 9 700 = -1 | burst 1 0 = 0 | "
                + "gauge 1 2 801 = 800 | burst 1 0 = 2 | burst 1 13 = 0 | gauge 1 2 -1 = 801 | burst 1 0 = 0 | burst 1 22 = 0 | "
                + "burst 1 23 = -1",
                "gauge 1 5 950 = -1 | burst 1 0 = 5 | gauge 1 5 0 = 950 | burst 1 0 = 0 | burst 0 0 = -1 | burst 2 0 = -1");
        S.says("BURST: of these the first; told by the first of both",
                "gauge 2 1 900 = -1 | gauge 2 4 800 = -1 | gauge 2 7 700 = -1 | gauge 2 9 620 = -1 | burst 2 0 = 1 | burst 2 10 = 1 | "
                + "burst 2 20 = 1 | gauge 2 7 699 = 700 | burst 2 10 = 4 | gauge 2 4 799 = 800 | burst 2 10 = 1",
                "gauge 2 9 609 = 620 | burst 2 0 = 1 | burst 2 10 = 1 | burst 2 11 = 1 | burst 2 12 = 7 | gauge 2 9 608 = 609 | "
                + "burst 2 10 = 1 | burst 2 11 = 7 | gauge 2 9 600 = 608 | burst 2 0 = 1 | burst 2 1 = 1 | burst 2 2 = 1 | "
                + "burst 2 3 = 7 | burst 2 99 = -1");
        S.says("burst: by a norm (0 to 99 a place); IllegalArgumentException: the PIPE, or norm",
                "burst 0 -1 = IAE | burst 0 100 = IAE | burst 0 0 = -1 | burst 0 99 = -1 | burst -1 0 = IAE | burst 4 0 = IAE | "
                + "burst 3 0 = -1 | burst 0 " + MOST + " = IAE | burst 0 " + LEAST + " = IAE | burst " + MOST + " 0 = IAE");
    }

    private static void wear() {
        S.says("WEAR: STARTS times a told number (0 to 999), and MINUTES in which it RAN",
                "wear 0 = 0 | wear 999 = 0 | wear 1000 = IAE | wear -1 = IAE | wear " + MOST + " = IAE | wear " + LEAST + " = IAE",
                "house \"room 99 0;radiator 0 0 1;\" = 1 | go 1 = * | wear 0 = 1 | wear 1 = 2 | wear 998 = 999 | wear 999 = 1000 | "
                + "air 0 true = false | go 9 = 0 | wear 0 = 1 | wear 999 = 1000 | air 0 false = true | go 2 = * | wear 0 = 3 | "
                + "wear 999 = 2001 | wear 1000 = IAE");
    }

    private static void errors() {
        S.says("error: The ERROR of a METER (-50 to 50 hundredths): what it was",
                "error 0 0 = NSEE | house \"room 1 1;radiator 0 0 1;radiator 0 0 1;\" = 1 | error 0 -50 = 0 | error 0 -49 = -50 | "
                + "error 0 49 = -49 | error 0 50 = 49 | error 0 51 = IAE | error 0 -51 = IAE | error 1 7 = 0 | error 0 0 = 50",
                "error 2 0 = NSEE | error -1 0 = NSEE | error " + MOST + " 0 = NSEE | error 0 " + MOST + " = IAE | error 0 " + LEAST
                + " = IAE | error 1 0 = 7 | error 0 5 = 0 | house \"room 1 1;radiator 0 0 1;\" = 1 | error 0 0 = 0 | error 1 0 = NSEE");
    }

    private static void fourMarks() {
        S.says("MARKS, 4 at most; mark: how many there are; -1: there are 4",
                "count 1 = 0 | mark = 1 | mark = 2 | mark = 3 | count 1 = 3 | mark = 4 | mark = -1 | count 1 = 4 | mark = -1 | back = 3 | "
                + "mark = 4 | mark = -1",
                // the fifth is not kept
                RISING + "mark = 1 | go 1 = 0 | mark = 2 | go 1 = 0 | mark = 3 | go 1 = 0 | mark = 4 | go 5 = 0 | mark = -1 | go 1 = 0 | "
                + "room 0 1 = 9 | back = 3 | room 0 1 = 3 | clock 0 = 3 | back = 2 | room 0 1 = 2 | back = 1 | room 0 1 = 1 | back = 0 | "
                + "room 0 1 = 0 | back = -1 | room 0 1 = 0");
        S.says("to go BACK makes them so again (the latest, which is gone then); back: how many MARKS are left; -1: there is none",
                "back = -1 | count 1 = 0 | mark = 1 | back = 0 | back = -1",
                RISING + "go 7 = 0 | back = -1 | clock 0 = 7 | room 0 1 = 7 | mark = 1 | go 1 = 0 | back = 0 | clock 0 = 7 | go 2 = 0 | "
                + "back = -1 | clock 0 = 9 | room 0 1 = 9",
                // a MARK that is gone is not there for the next one
                "mark = 1 | go 1 = 0 | mark = 2 | go 1 = 0 | back = 1 | go 5 = 0 | mark = 2 | go 1 = 0 | back = 1 | clock 0 = 15 | "
                + "back = 0 | clock 0 = 9");
    }

    private static final String RICH = "house \"room 10 200;room 9 100;wall 0 1 5;window 0 9;outer 0 9;sun 0 50 0 24;radiator 0 0 10;slow 0 210;radiator 0 1 10;draught 1 215;\" = 2\n";

    /** What a MARK keeps, as it can be seen. */
    private static String looks(String kept) {
        StringBuilder rows = new StringBuilder();
        for (int what = 0; what < 10; what++) {
            rows.append("room 0 ").append(what).append(" = ").append(kept).append("r").append(what).append('\n');
            rows.append("radiator 0 ").append(what + 1).append(" = ").append(kept).append("k").append(what).append('\n');
            rows.append("radiator 1 ").append(what + 1).append(" = ").append(kept).append("j").append(what).append('\n');
        }
        for (int i = 0; i < 4; i++) {
            rows.append("clock ").append(i).append(" = ").append(kept).append("c").append(i).append(" | "
                + "dead ").append(i).append(" = ").append(kept).append("d").append(i).append('\n');
        }
        for (int i = 0; i < 7; i++) {
            rows.append("diary 0 0 ").append(i).append(" = ").append(kept).append("y").append(i).append(" | "
                + "diary 1 0 ").append(i).append(" = ").append(kept).append("z").append(i).append('\n');
        }
        return rows + "wear 7 = " + kept + "w | hunts 1 = " + kept + "h | count 3 = " + kept + "n | count 4 = " + kept + "m | count 6 = "
                + kept + "o | count 7 = " + kept + "p\n";
    }

    private static void marksKeep() {
        S.says("MARKS: TEMPERATURES, TAPS, MINUTE (and what the latest one had), windows, AIR, METERS, STARTS, WEAR, DEAD, DIARY .. are kept",
                RICH + "air 1 true = false | go 30 = * | open 0 true = false | go 90 = * | holiday 0 999 3 = 1\n" + looks("@")
                + "mark = 1 | go 1 = @one | go 61 = @two | back = 0\n" + looks("@") + "mark = 1",
                "open 0 false = true | air 1 false = true | air 3 true = false | open 1 true = false | holiday 0 9 9 = 2 | go 300 = * | "
                + "back = 0\n" + looks("@") + "go 1 = @one | go 61 = @two");
        S.says("MARKS: .. SCREWS, OUT, NIGHT, HOLIDAYS, WATER of HOURS, pump are kept",
                RICH + "screw 0 3 = 16 | out 5 77 = 0 | night 1 2 3 = 0 | holiday 1 2 3 = 1 | water 3 300 = 0 | pump 7 = 100 | mark = 1",
                "screw 0 4 = 3 | screw 1 4 = 16 | out 5 0 = 77 | out 23 9 = 0 | night 0 0 0 = 3 | holiday 1 2 3 = 2 | water 3 0 = 300 | "
                + "water 23 300 = 0 | pump 9 = 7 | back = 0",
                "screw 0 4 = 3 | screw 1 4 = 16 | out 5 0 = 77 | out 23 0 = 0 | night 0 0 0 = 3 | holiday 1 2 3 = 2 | water 3 0 = 300 | "
                + "water 23 0 = 0 | pump 9 = 7");
        // the HOURS of NIGHT and the MINUTES of HOLIDAYS, too
        String still = "new | house \"room 1 200;radiator 0 0 1;snap 0 203;pump 1;\" = 1 | ";
        S.says("MARKS: .. NIGHT, HOLIDAYS .. are kept, with HOURS and MINUTES",
                still + "night 1 2 60 = 0 | mark = 1 | night 0 0 60 = 60 | back = 0 | go 60 = 0 | radiator 0 5 = 16 | go 1 = 0 | "
                + "radiator 0 5 = 0 | go 59 = 0 | radiator 0 5 = 0 | go 1 = 0 | radiator 0 5 = 16",
                still + "holiday 1 2 60 = 1 | mark = 1 | holiday 0 1 60 = 2 | back = 0 | count 7 = 1 | holiday 5 6 1 = 2 | go 1 = 0 | "
                + "radiator 0 5 = 16 | go 1 = 0 | radiator 0 5 = 0 | go 1 = 0 | radiator 0 5 = 16",
                // how it moved last, and when it TURNED
                still + "go 1 = 0 | mark = 1 | night 0 0 60 = 0 | go 1 = 0 | radiator 0 10 = 1 | back = 0 | radiator 0 10 = 0 | "
                + "go 1 = 0 | radiator 0 10 = 0 | night 0 0 60 = 0 | go 1 = 0 | radiator 0 10 = 1 | mark = 1 | go 59 = 0 | "
                + "radiator 0 10 = 1 | go 1 = 0 | radiator 0 10 = 0",
                "back = 0 | radiator 0 10 = 1 | go 59 = 0 | radiator 0 10 = 1 | go 1 = 0 | radiator 0 10 = 0");
        S.says("MARKS: MINUTE (and what the latest one had)", "new | house \"room 99 0;radiator 0 0 1;sun 0 7 0 1;\" = 1 | go 1 = * | "
                + "mark = 1 | mark = 2 | air 0 true = false | go 60 = 0 | clock 2 = 0 | room 0 9 = 0 | radiator 0 8 = 0 | back = 1 | "
                + "clock 2 = 1 | room 0 9 = 7 | room 0 8 = 60 | clock 1 = 1",
                // it RAN ahead of it, so it does not START; and the other way round
                "go 1 = * | clock 1 = 1 | back = 0 | air 0 true = false | go 1 = 0 | mark = 1 | air 0 false = true | go 1 = * | "
                + "clock 1 = 2 | back = 0 | clock 2 = 0 | clock 1 = 1 | air 0 false = true | go 1 = * | clock 1 = 2");
        S.says("MARKS: .. DIARY, the HOUR that goes on, too", RISING + "go 30 = 0 | mark = 1 | go 90 = 0 | count 6 = 2 | back = 0 | "
                + "count 6 = 0 | go 30 = 0 | count 6 = 1 | diary 0 0 0 = 1 | diary 0 0 1 = 60",
                RISING + "go 960 = 0 | go 960 = 0 | go 960 = 0 | count 6 = 48 | mark = 1 | go 960 = 0 | go 960 = 0 | "
                + "diary 0 47 0 = 1921 | back = 0 | count 6 = 48 | diary 0 47 0 = 1 | diary 0 0 1 = 2880 | diary 0 20 0 = 1621");
    }

    private static void marksKeepNot() {
        S.says("(ERRORS, LOG, GAUGES, the CLAIM are not)", RICH + "go 60 = * | radiator 0 9 = @meter | mark = 1 | error 0 50 = 0 | "
                + "log 1 0 7 = 1 | gauge 2 5 8 = -1 | claim \"got 0 0 0\" = 0 | words \"42\" = 0 | feed 0 0 0 0 0 = 20 | back = 0",
                "error 0 0 = 50 | count 0 = 1 | explained -1 -1 0 = false | count 8 = 1 | gauge 2 5 -1 = 8 | judge = 1 | part 0 = 42 | "
                + "count 2 = 20 | fault = -1");
    }

    private static void beginsAnew() {
        S.says("A HOUSE that is well read begins anew (SCREWS 16, OUT 0, no NIGHT, HOLIDAYS, WATER of HOURS; windows shut, no AIR, METERS and ERRORS 0, no DIARY, GAUGES), and ends LOG, MARKS; WORDS and the CLAIM stay",
                RICH + "screw 0 3 = 16 | out 5 77 = 0 | night 1 2 3 = 0 | holiday 1 2 3 = 1 | water 3 300 = 0 | pump 7 = 100 | "
                + "open 0 true = false | air 2 true = false | error 0 5 = 0 | gauge 3 9 5 = -1 | log 1 0 0 = 1 | mark = 1 | "
                + "words \"size\" = 0 | claim \"got 0 0 0\" = 0 | go 130 = *",
                RICH + "count 0 = 0 | count 1 = 0 | count 2 = 0 | count 3 = 0 | count 4 = 0 | count 6 = 0 | count 7 = 0 | count 8 = 0 | "
                + "clock 0 = 0 | clock 1 = 0 | clock 2 = 0 | clock 3 = 0 | wear 9 = 0 | dead 0 = 0 | dead 2 = 0 | hunts 1 = 0 | back = -1",
                "radiator 0 5 = 0 | radiator 0 7 = 0 | radiator 0 8 = 0 | radiator 0 9 = 0 | radiator 0 10 = 0 | room 0 1 = 2000 | "
                + "room 0 5 = 0 | room 0 6 = 0 | room 0 7 = 0 | room 0 8 = 0 | room 0 9 = 0 | blame 0 = -1",
                "screw 0 16 = 16 | out 5 0 = 0 | night 0 0 0 = 0 | water 3 0 = 0 | pump 100 = 100 | error 0 0 = 0 | gauge 3 9 -1 = -1 | "
                + "part 0 = 10 | judge = -1 | explained -1 -1 0 = true | diary 0 0 0 = IAE");
        // nothing of an older HOUSE comes through, nor of the one ahead of that
        String poor = "house \"room 1 200;room 1 100;radiator 0 0 1;\" = 2\n";
        String older = "house \"room 1 300;room 1 100;wall 0 1 9;outer 0 9;window 0 9;sun 0 9 0 24;radiator 0 1 9;radiator 1 1 9;snap 0 300;slow 1 300;pump 7;boiler 77 777;\" = 2\n";
        S.says("A HOUSE that is well read begins anew, with its own text alone",
                older + poor + poor + "wall 0 1 = 0 | room 0 2 = 0 | room 0 3 = 0 | told 1 = 1 | told 2 = 100 | told 3 = 9999 | "
                + "told 4 = 600 | told 5 = 3 | radiator 0 3 = 0 | radiator 0 4 = 0 | radiator 0 5 = 16 | count 5 = 0",
                "things = 6 | open 0 true = false | go 1 = 40 | room 0 9 = 0 | room 0 5 = 0 | room 0 6 = 0 | room 0 7 = 0 | "
                + "room 0 1 = 2040 | room 1 1 = 1000");
        S.says("A HOUSE that is well read begins anew: how its TAPS moved is forgotten",
                "new | house \"room 1 200;radiator 0 0 1;snap 0 203;pump 1;\" = 1 | go 1 = 0 | night 0 0 60 = 0 | go 1 = 0 | "
                + "radiator 0 10 = 1 | hunts 1 = 1",
                "house \"room 1 200;radiator 0 0 1;snap 0 203;pump 1;\" = 1 | radiator 0 10 = 0 | hunts 1 = 0 | go 1 = 0 | "
                + "radiator 0 5 = 16 | radiator 0 10 = 0 | house \"room 1 200;radiator 0 0 1;slow 0 203;pump 1;\" = 1 | go 8 = 0 | "
                + "night 0 0 60 = 0 | go 1 = 0 | radiator 0 10 = 1 | house \"room 1 200;radiator 0 0 1;slow 0 203;pump 1;\" = 1 | "
                + "go 1 = 0 | radiator 0 5 = 2 | radiator 0 10 = 0");
        S.says("a new object has no HOUSE: settings that were told ahead of the first one are gone with it, too",
                "out 5 77 = 0 | night 1 2 3 = 0 | holiday 1 2 3 = 1 | water 3 300 = 0 | pump 7 = 100 | air 2 true = false | "
                + "gauge 3 9 5 = -1 | mark = 1", RICH
                + "out 5 0 = 0 | night 0 0 0 = 0 | count 7 = 0 | water 3 0 = 0 | pump 100 = 100 | count 4 = 0 | count 8 = 0 | count 1 = 0");
    }

    private static void counts() {
        S.says("count: NONE for others", "count -1 = -1 | count 9 = -1 | count " + MOST + " = -1 | count " + LEAST + " = -1 | "
                + "count 8 = 0 | count 0 = 0", RICH + "count 9 = -1 | count -1 = -1 | count 5 = 2");
    }
}
