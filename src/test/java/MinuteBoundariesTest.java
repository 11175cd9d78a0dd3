import java.util.function.IntPredicate;

/** The boundaries that the document names for what a MINUTE does: Terms 2, promises 7 to 17. */
public final class MinuteBoundariesTest {
    private static final Sentences S = new Sentences();
    /** Its TEMPERATURE stays 2000, for its water gives no HEAT; its TAP would open, but for 6 tenths off or more. */
    private static final String STILL = "new | house \"room 1 200;radiator 0 0 1;snap 0 203;pump 1;\" = 1\n";

    public static void main(String[] args) {
        outOfHours();
        sunInItsHours();
        waterOfHours();
        nightInItsHours();
        nightTakesOff();
        holidayInItsMinutes();
        whicheverIsMost();
        hoursOfTheDay();
        openOfRadiators();
        flow();
        heatIsCut();
        heatAtLeastNothing();
        power();
        lossesAreCut();
        byMass();
        coldestAndHottest();
        runsAndStarts();
        snapMoves();
        draughtFeels();
        slowMoves();
        turns();
        latestSixtyMinutes();
        huntsSoOften();
        metersEnd();
        atFirst();
        minutesOfGo();
        last512thCall();
        S.end();
    }

    /** Looks at the first and the last MINUTE of each HOUR of a day, and of the first one of the next day. */
    private static void eachHour(String sentence, String setup, String look, IntPredicate isIn, int inside, int outside) {
        StringBuilder rows = new StringBuilder(setup).append('\n');
        for (int hour = 0; hour <= 24; hour++) {
            String due = look + " = " + (isIn.test(hour % 24) ? inside : outside);
            rows.append("go 1 = * | ").append(due).append(" | go 58 = * | go 1 = * | ").append(due).append('\n');
        }
        S.says(sentence, rows.toString());
    }

    private static void outOfHours() {
        for (int h = 0; h < 24; h++) {
            int told = h;
            eachHour("OUT has a TEMPERATURE for each HOUR 0 to 23 (0 at first)",
                "house \"room 99 0;outer 0 1;\" = 1 | out " + h + " 4000 = 0",
                    "room 0 6", hour -> hour == told, -40, 0);
        }
        S.says("out: IllegalArgumentException: the HOUR, or the TEMPERATURE (-4,000 to 4,000)",
                "out 0 -4000 = 0 | out 0 -3999 = -4000 | out 0 3999 = -3999 | out 0 4000 = 3999 | out 0 -4001 = IAE | out 0 4001 = IAE | "
                + "out 0 0 = 4000",
                "out 23 5 = 0 | out 24 5 = IAE | out -1 5 = IAE | out 22 5 = 0 | out 1 5 = 0 | out 2147483647 0 = IAE | "
                + "out 0 -2147483648 = IAE | out 0 1 = 0");
    }

    private static void sunInItsHours() {
        for (int[] hours : new int[][] {{0, 1}, {0, 24}, {5, 6}, {22, 24}, {23, 24}, {7, 19}, {1, 24}}) {
            eachHour("A ROOM gains .. its sun in these HOURS (from an HOUR up to another one)",
                    "house \"room 99 0;sun 0 5 " + hours[0] + " " + hours[1] + ";\" = 1", "room 0 9",
                    hour -> hour >= hours[0] && hour < hours[1], 5, 0);
        }
    }

    private static void waterOfHours() {
        for (int h : new int[] {0, 1, 12, 22, 23}) {
            eachHour("HEAT: .. what WATER (of this HOUR) has above its ROOM",
                "house \"room 99 0;radiator 0 0 1;pump 10;\" = 1 | water " + h + " 900 = 0",
                    "radiator 0 8", hour -> hour == h, 9, 6);
        }
        S.says("WATER of an HOUR can be told (200 to 900 tenths; 0: as in the text)",
                "house \"room 99 0;radiator 0 0 5;pump 100;boiler 9999 700;\" = 1",
                "go 1 = 350 | water 0 200 = 0 | go 1 = 99 | water 0 201 = 200 | water 0 899 = 201 | water 0 900 = 899 | go 1 = 449 | "
                + "water 0 0 = 900 | go 1 = 349",
                "water 0 199 = IAE | water 0 901 = IAE | water 0 1 = IAE | water 0 -1 = IAE | water 0 -200 = IAE | "
                + "water 0 2147483647 = IAE | water 0 0 = 0",
                "water -1 300 = IAE | water 24 300 = IAE | water 24 0 = IAE | water 23 300 = 0 | water 23 0 = 300 | "
                + "water -2147483648 0 = IAE");
    }

    private static void nightInItsHours() {
        for (int[] hours : new int[][] {{22, 6}, {6, 22}, {0, 23}, {23, 0}, {0, 1}, {1, 0}, {22, 23}, {23, 22}, {12, 13}}) {
            int from = hours[0];
            int to = hours[1];
            eachHour("NIGHT: from an HOUR up to another one (0 to 23; over midnight, if that is not greater)",
                STILL + "night " + from + " " + to + " 60 = 0",
                    "radiator 0 5", hour -> from < to ? hour >= from && hour < to : hour >= from || hour < to, 0, 16);
        }
        for (int alike : new int[] {0, 1, 12, 23}) {
            eachHour("NIGHT: alike ones: the whole day", STILL + "night " + alike + " " + alike + " 60 = 0", "radiator 0 5",
                hour -> true, 0, 16);
        }
        S.says("night: an HOUR (0 to 23), tenths off (0 to 200): what it took off till then (0 at first)",
                "night 23 23 200 = 0 | night 0 0 199 = 200 | night 0 23 1 = 199 | night 23 0 0 = 1 | night 5 5 7 = 0",
                "night 24 0 0 = IAE | night -1 0 0 = IAE | night 0 24 0 = IAE | night 0 -1 0 = IAE | night 0 0 201 = IAE | "
                + "night 0 0 -1 = IAE",
                "night 2147483647 0 0 = IAE | night 0 -2147483648 0 = IAE | night 0 0 2147483647 = IAE | night 0 0 0 = 7");
    }

    /** 2000 is below GOAL less 20 with 7 tenths off 210, and above GOAL and 20 with 13. */
    private static void nightTakesOff() {
        String house = "new | house \"room 1 200;radiator 0 0 1;snap 0 210;pump 1;\" = 1\n";
        S.says("GOAL: SET, less what the NIGHT takes off in its HOURS", house + "night 0 0 7 = 0 | go 1 = 0 | radiator 0 5 = 16",
                house + "night 0 0 8 = 0 | go 1 = 0 | radiator 0 5 = 0 | night 0 0 7 = 8 | go 1 = 0 | radiator 0 5 = 16 | "
                + "night 0 0 12 = 7 | go 1 = 0 | radiator 0 5 = 16",
                "night 0 0 13 = 12 | go 1 = 0 | radiator 0 5 = 0 | night 0 0 12 = 13 | go 1 = 0 | radiator 0 5 = 0 | night 0 0 0 = 12 | "
                + "go 1 = 0 | radiator 0 5 = 16",
                // out of its HOURS not a tenth is taken off or put on: 203 opens from 2000, 202 does not
                "new | house \"room 1 200;radiator 0 0 1;snap 0 203;radiator 0 0 1;snap 1 202;pump 1;\" = 1 | night 1 2 9 = 0 | "
                + "go 60 = 0 | radiator 0 5 = 16 | radiator 1 5 = 0 | go 1 = 0 | radiator 0 5 = 0 | go 60 = 0 | radiator 0 5 = 16 | "
                + "radiator 1 5 = 0",
                "new | house \"room 1 0;radiator 0 0 1;slow 0 199;radiator 0 0 1;slow 1 200;radiator 0 0 1;slow 2 201;pump 1;\" = 1",
                "go 8 = 0 | radiator 0 5 = 16 | radiator 1 5 = 16 | radiator 2 5 = 16 | night 0 0 200 = 0 | go 1 = 0 | "
                + "radiator 0 5 = 14 | radiator 1 5 = 16 | radiator 2 5 = 16");
    }

    private static void holidayInItsMinutes() {
        S.says("HOLIDAYS: from a MINUTE up to another one (MINUTES that went by ahead of it)",
                STILL + "holiday 0 1 60 = 1 | go 1 = 0 | radiator 0 5 = 0 | go 1 = 0 | radiator 0 5 = 16",
                STILL + "holiday 5 8 60 = 1 | go 5 = 0 | radiator 0 5 = 16 | go 1 = 0 | radiator 0 5 = 0 | go 2 = 0 | radiator 0 5 = 0 | "
                + "go 1 = 0 | radiator 0 5 = 16",
                STILL + "holiday 1 2 60 = 1 | go 1 = 0 | radiator 0 5 = 16 | go 1 = 0 | radiator 0 5 = 0 | go 1 = 0 | radiator 0 5 = 16",
                STILL + "holiday 0 99999 60 = 1 | holiday 0 1 0 = 2 | go 999 = 0 | radiator 0 5 = 0");
        S.says("HOLIDAYS: (0 to 99,999), the last MINUTE of all", STILL + "holiday 99998 99999 60 = 1\n" + "go 999 = 0\n".repeat(100)
                + "go 98 = 0 | clock 0 = 99998 | radiator 0 5 = 16 | go 1 = 0 | radiator 0 5 = 0 | go 1 = 0 | radiator 0 5 = 16 | "
                + "clock 0 = 100000");
        S.says("a HOLIDAY takes off 0 to 200 tenths", "new | house \"room 1 200;radiator 0 0 1;snap 0 210;pump 1;\" = 1 | go 1 = 0 | "
                + "radiator 0 5 = 16",
                "holiday 1 2 12 = 1 | holiday 2 3 13 = 2 | holiday 3 4 8 = 3 | holiday 4 5 7 = 4 | go 1 = 0 | radiator 0 5 = 16 | "
                + "go 1 = 0 | radiator 0 5 = 0",
                "go 1 = 0 | radiator 0 5 = 0 | go 1 = 0 | radiator 0 5 = 16");
    }

    private static void whicheverIsMost() {
        // 7 tenths off 204 shut it at 2000, 6 do not; and two of 6 are not 12
        String house = "new | house \"room 1 200;radiator 0 0 1;snap 0 204;pump 1;\" = 1 | go 1 = 0 | radiator 0 5 = 16\n";
        S.says("or a HOLIDAY in its MINUTES, whichever is most", house + "night 0 0 6 = 0 | holiday 0 99 6 = 1 | holiday 0 99 6 = 2 | "
                + "go 9 = 0 | radiator 0 5 = 16",
                house + "night 0 0 7 = 0 | holiday 0 99 1 = 1 | go 1 = 0 | radiator 0 5 = 0",
                house + "night 0 0 1 = 0 | holiday 0 99 7 = 1 | go 1 = 0 | radiator 0 5 = 0",
                house + "holiday 0 99 7 = 1 | holiday 0 99 1 = 2 | go 1 = 0 | radiator 0 5 = 0",
                house + "holiday 0 99 1 = 1 | holiday 0 99 7 = 2 | go 1 = 0 | radiator 0 5 = 0",
                house + "holiday 0 99 1 = 1 | holiday 0 99 2 = 2 | holiday 0 99 3 = 3 | holiday 0 99 7 = 4 | go 1 = 0 | radiator 0 5 = 0",
                house + "night 0 0 7 = 0 | holiday 1 2 0 = 1 | go 1 = 0 | radiator 0 5 = 0",
                house + "night 5 6 200 = 0 | holiday 5 9 200 = 1 | go 4 = 0 | radiator 0 5 = 16 | go 1 = 0 | radiator 0 5 = 0");
    }

    private static void hoursOfTheDay() {
        S.says("HOUR: MINUTES that went by, by 60, less all whole days",
                "house \"room 1 0;\" = 1 | clock 3 = 0 | go 59 = 0 | clock 3 = 0 | go 1 = 0 | clock 3 = 1 | go 1 = 0 | clock 3 = 1",
                "go 939 = 0 | clock 0 = 1000 | clock 3 = 16 | go 379 = 0 | clock 3 = 22 | go 1 = 0 | clock 3 = 23 | go 59 = 0 | "
                + "clock 0 = 1439 | clock 3 = 23",
                "go 1 = 0 | clock 0 = 1440 | clock 3 = 0 | go 59 = 0 | clock 3 = 0 | go 1 = 0 | clock 3 = 1 | go 999 = 0 | go 380 = 0 | "
                + "clock 0 = 2879 | clock 3 = 23 | go 1 = 0 | clock 3 = 0");
        S.says("clock: IllegalArgumentException: another what", "clock -1 = IAE | clock 4 = IAE | clock 2147483647 = IAE | "
                + "clock -2147483648 = IAE | clock 0 = 0 | clock 3 = 0");
    }

    private static void openOfRadiators() {
        String house = "new | house \"room 99 0;radiator 0 0 1;radiator 0 1 1;slow 0 400;\" = 1 | go 2 = * | radiator 0 5 = 4\n";
        S.says("OPEN of a RADIATOR: the less of that and its SCREW", house + "screw 0 3 = 16 | go 1 = * | radiator 0 7 = 15 | "
                + "radiator 1 7 = 84",
                house + "screw 0 4 = 16 | go 1 = * | radiator 0 7 = 20 | radiator 1 7 = 80",
                house + "screw 0 5 = 16 | go 1 = * | radiator 0 7 = 20 | radiator 1 7 = 80",
                house + "screw 0 1 = 16 | screw 1 1 = 16 | go 1 = * | radiator 0 7 = 50 | radiator 1 7 = 50",
                house + "screw 1 15 = 16 | go 1 = * | radiator 0 7 = 21 | radiator 1 7 = 78",
                "new | house \"room 99 0;radiator 0 0 1;radiator 0 1 1;slow 0 400;\" = 1 | screw 0 1 = 16 | go 1 = * | radiator 0 7 = 0 | "
                + "radiator 1 7 = 100 | go 1 = * | radiator 0 7 = 5");
        S.says("OPEN: 0, if there is AIR in its PIPE", "house \"room 99 0;radiator 0 0 1;radiator 0 3 1;radiator 0 3 1;\" = 1 | "
                + "go 1 = * | radiator 0 7 = 33 | radiator 2 7 = 33",
                "air 3 true = false | go 1 = * | radiator 0 7 = 100 | radiator 1 7 = 0 | radiator 2 7 = 0 | air 0 true = false | "
                + "go 1 = 0 | radiator 0 7 = 0 | air 3 false = true",
                "go 1 = * | radiator 0 7 = 0 | radiator 1 7 = 50 | radiator 2 7 = 50 | air 1 true = false | air 2 true = false | "
                + "go 1 = * | radiator 1 7 = 50",
                "air 4 true = IAE | air -1 false = IAE | air 2147483647 true = IAE | count 4 = 3");
        S.says("SCREWS of RADIATORS: 1 to 16 (16 at first)", "house \"room 1 1;radiator 0 0 1;\" = 1 | radiator 0 6 = 16 | "
                + "screw 0 1 = 16 | screw 0 2 = 1 | screw 0 15 = 2 | screw 0 16 = 15",
                "screw 0 0 = IAE | screw 0 17 = IAE | screw 0 -1 = IAE | screw 0 2147483647 = IAE | screw 1 5 = NSEE | "
                + "screw -1 5 = NSEE | radiator 0 6 = 16",
                "house \"room 1 1;" + "radiator 0 0 1;".repeat(8) + "\" = 1 | screw 7 1 = 16 | screw 8 1 = NSEE | radiator 6 6 = 16 | "
                + "radiator 7 6 = 1");
        S.says("A TAP is open by 0 to 16 (0 at first); a RADIATOR without one is open by 16",
                "house \"room 1 1;radiator 0 0 1;radiator 0 0 1;radiator 0 0 1;radiator 0 0 1;snap 0 1;slow 1 1;draught 2 1;\" = 1",
                "radiator 0 5 = 0 | radiator 1 5 = 0 | radiator 2 5 = 0 | radiator 3 5 = 16");
    }

    private static void flow() {
        String two = "new | house \"room 99 0;radiator 0 0 1;radiator 0 1 1;pump ";
        S.says("FLOW of a RADIATOR: pump times OPEN, by OPEN of all together (cut)",
                two + "1;\" = 1 | go 1 = 0 | radiator 0 7 = 0 | radiator 1 7 = 0",
                two + "2;\" = 1 | go 1 = 0 | radiator 0 7 = 1 | radiator 1 7 = 1",
                two + "3;\" = 1 | go 1 = 0 | radiator 0 7 = 1 | radiator 1 7 = 1",
                two + "999;\" = 1 | go 1 = * | radiator 0 7 = 499 | radiator 1 7 = 499",
                two + "999;\" = 1 | screw 0 1 = 16 | go 1 = * | radiator 0 7 = 58 | radiator 1 7 = 940",
                "new | house \"room 99 0;radiator 0 0 1;pump 999;\" = 1 | go 1 = * | radiator 0 7 = 999 | screw 0 1 = 16 | go 1 = * | "
                + "radiator 0 7 = 999",
                // none is OPEN
                "new | house \"room 99 100;radiator 0 0 9;snap 0 0;radiator 0 1 9;\" = 1 | air 1 true = false | go 1 = 0 | "
                + "radiator 0 7 = 0 | radiator 1 7 = 0 | radiator 1 8 = 0 | clock 2 = 0",
                "pump 999 = 100 | go 9 = 0 | air 1 false = true | go 1 = * | radiator 1 7 = 999 | pump 1 = 999 | go 1 = * | "
                + "radiator 1 7 = 1");
        S.says("pump: The pump (1 to 999): what it was", "pump 1 = 100 | pump 2 = 1 | pump 998 = 2 | pump 999 = 998 | pump 0 = IAE | "
                + "pump 1000 = IAE | pump -1 = IAE | pump 2147483647 = IAE | pump 5 = 999");
    }

    private static void heatIsCut() {
        S.says("HEAT: FLOW times SIZE times what WATER has above its ROOM, by 10,000 (cut)",
                // 99 times 1 times 101 is 9,999
                "house \"room 1 189;sun 0 8 0 1;radiator 0 0 1;pump 99;boiler 99999 200;\" = 1 | go 1 = 1 | room 0 1 = 1899 | go 1 = 0 | "
                + "radiator 0 8 = 0",
                "new | house \"room 99 190;radiator 0 0 1;pump 100;boiler 99999 200;\" = 1 | go 1 = 1",
                "new | house \"room 99 190;radiator 0 0 1;pump 99;boiler 99999 200;\" = 1 | go 1 = 0",
                "new | house \"room 99 190;radiator 0 0 1;pump 199;boiler 99999 200;\" = 1 | go 1 = 1",
                "new | house \"room 99 190;radiator 0 0 1;pump 200;boiler 99999 200;\" = 1 | go 1 = 2",
                // the greatest of all: 999 times 99 times 18,999 stays within 32 bits
                "new | house \"room 1 400;outer 0 99;window 0 99;radiator 0 0 99;pump 999;boiler 99999 900;\" = 1 | air 0 true = false | "
                + "open 0 true = false | out 0 -4000 = 0",
                "go 1 = 0 | room 0 1 = -9999 | air 0 false = true | go 1 = 99999 | radiator 0 8 = 99999 | radiator 0 7 = 999",
                "new | house \"room 99 0;radiator 0 0 99;pump 999;boiler 99999 900;\" = 1 | go 1 = 89010");
    }

    private static void heatAtLeastNothing() {
        // FLOW times SIZE is 10,000 here, so that HEAT is just what WATER has above the ROOM
        S.says("HEAT: (cut; 0 at least)", "house \"room 1 200;sun 0 1 0 1;radiator 0 0 20;pump 500;boiler 99999 200;\" = 1 | go 1 = 0 | "
                + "room 0 1 = 2001 | go 1 = 0 | radiator 0 8 = 0 | room 0 1 = 2002 | radiator 0 9 = 0",
                "new | house \"room 1 200;outer 0 1;radiator 0 0 20;pump 500;boiler 99999 200;\" = 1 | out 0 1900 = 0 | go 1 = 0 | "
                + "room 0 1 = 1999 | go 1 = 1 | room 0 1 = 2000 | radiator 0 8 = 1",
                "new | house \"room 9 400;radiator 0 0 99;pump 999;boiler 99999 200;\" = 1 | go 60 = 0 | room 0 1 = 4000 | "
                + "radiator 0 9 = 0 | clock 2 = 0 | diary 0 0 3 = 0");
    }

    private static void power() {
        String house = "new | house \"room 99 200;radiator 0 0 10;radiator 0 0 5;boiler ";
        S.says("if all HEATS together are above POWER, each is that times POWER by all together (cut)",
                house + "301 600;\" = 1 | go 1 = 300 | radiator 0 8 = 200 | radiator 1 8 = 100",
                house + "300 600;\" = 1 | go 1 = 300 | radiator 0 8 = 200 | radiator 1 8 = 100",
                house + "299 600;\" = 1 | go 1 = 298 | radiator 0 8 = 199 | radiator 1 8 = 99 | room 0 8 = 298 | radiator 0 9 = 199",
                house + "1 600;\" = 1 | go 1 = 0 | radiator 0 8 = 0 | clock 2 = 0",
                house + "2 600;\" = 1 | go 1 = 1 | radiator 0 8 = 1 | radiator 1 8 = 0 | clock 2 = 1",
                "new | house \"room 99 200;radiator 0 0 10;boiler 399 600;\" = 1 | go 1 = 399 | new | "
                + "house \"room 99 200;radiator 0 0 10;boiler 400 600;\" = 1 | go 1 = 400",
                // HEATS of 89,010 times a POWER of 80,000 are beyond 32 bits
                "new | house \"room 99 0;radiator 0 0 99;pump 999;boiler 80000 900;\" = 1 | go 1 = 80000");
    }

    private static void lossesAreCut() {
        String sentence = "it loses, each cut by itself";
        for (int[] row : new int[][] {{-99, 0}, {-100, 1}, {-101, 1}, {-199, 1}, {-200, 2}, {99, 0}, {100, -1}, {101, -1}, {199, -1},
                {200, -2}, {0, 0}}) {
            S.says(sentence + ": outer times what it has above OUT, by 100",
                "house \"room 99 0;outer 0 1;\" = 1 | out 0 " + row[0] + " = 0 | go 1 = 0 | room 0 6 = " + row[1]);
            S.says(sentence + ": and window likewise while its window is open",
                "house \"room 99 0;window 0 1;\" = 1 | out 0 " + row[0] + " = 0 | go 1 = 0 | room 0 7 = 0",
                    "open 0 true = false | go 1 = 0 | room 0 7 = " + row[1] + " | room 0 6 = 0 | open 0 false = true | go 1 = 0 | "
                    + "room 0 7 = 0");
        }
        for (int[] row : new int[][] {{9, 0}, {10, 1}, {11, 1}, {19, 1}, {20, 2}, {99, 9}, {0, 0}}) {
            S.says(sentence + ": wall times what it has above the other ROOM, by 100",
                "house \"room 99 1;room 99 0;wall 0 1 " + row[0] + ";\" = 2 | go 1 = 0 | room 0 5 = " + row[1] + " | room 1 5 = "
                + -row[1]);
        }
        S.says(sentence, "house \"room 1 9;room 1 0;room 1 0;wall 0 1 1;wall 0 2 1;outer 0 1;window 0 1;\" = 3 | open 0 true = false | "
                + "out 0 -9 = 0 | go 1 = 0 | room 0 5 = 0 | room 0 6 = 0 | room 0 7 = 0 | room 0 1 = 90",
                "new | house \"room 1 15;room 1 0;room 1 0;wall 0 1 1;wall 2 0 1;\" = 3 | go 1 = 0 | room 0 5 = 2 | room 1 5 = -1 | "
                + "room 2 5 = -1 | room 0 1 = 148 | room 1 1 = 1 | room 2 1 = 1",
                "new | house \"room 1 15;room 1 30;room 1 0;wall 0 1 1;wall 2 0 1;wall 1 2 1;\" = 3 | go 1 = 0 | room 0 5 = 0 | "
                + "room 1 5 = 4 | room 2 5 = -4");
    }

    private static void byMass() {
        String sentence = "Its TEMPERATURE becomes what gains less losses, by MASS (cut), make it";
        for (int[] row : new int[][] {{0, 0}, {2, 0}, {3, 1}, {4, 1}, {5, 1}, {6, 2}}) {
            S.says(sentence, "house \"room 3 0;sun 0 " + row[0] + " 0 24;\" = 1 | go 1 = 0 | room 0 1 = " + row[1],
                    "new | house \"room 3 0;outer 0 1;\" = 1 | out 0 " + -100 * row[0] + " = 0 | go 1 = 0 | room 0 6 = " + row[0] + " | "
                    + "room 0 1 = " + -row[1]);
        }
        S.says(sentence, "house \"room 2 0;sun 0 1 0 24;outer 0 1;\" = 1 | out 0 100 = 0 | go 1 = 0 | room 0 6 = -1 | room 0 1 = 1",
                "new | house \"room 1 0;sun 0 1 0 24;\" = 1 | go 1 = 0 | room 0 1 = 1 | new | house \"room 99 0;sun 0 98 0 24;\" = 1 | "
                + "go 1 = 0 | room 0 1 = 0 | new | house \"room 99 0;sun 0 99 0 24;\" = 1 | go 1 = 0 | room 0 1 = 1",
                "new | house \"room 2 0;sun 0 3 0 24;outer 0 1;\" = 1 | out 0 -200 = 0 | go 1 = 0 | room 0 6 = 2 | room 0 1 = 0");
    }

    private static void coldestAndHottest() {
        S.says("9,999 at most", "house \"room 1 400;sun 0 857 0 24;\" = 1 | go 6 = 0 | room 0 1 = 9142 | go 1 = 0 | room 0 1 = 9999 | "
                + "go 1 = 0 | room 0 1 = 9999",
                "new | house \"room 1 399;sun 0 751 0 24;\" = 1 | go 8 = 0 | room 0 1 = 9998 | go 1 = 0 | room 0 1 = 9999",
                "new | house \"room 1 400;sun 0 600 0 24;\" = 1 | go 9 = 0 | room 0 1 = 9400 | go 1 = 0 | room 0 1 = 9999 | go 50 = 0 | "
                + "diary 0 0 1 = 9999",
                "new | house \"room 1 0;radiator 0 0 99;pump 999;boiler 99999 900;\" = 1 | go 1 = 89010 | room 0 1 = 9999 | go 1 = 0 | "
                + "room 0 1 = 9999");
        String house = "new | house \"room 1 400;outer 0 99;window 0 ";
        S.says("-9,999 at least", house + "99;\" = 1 | open 0 true = false | out 0 -3070 = 0 | go 1 = 0 | room 0 1 = -9998",
                house + "98;\" = 1 | open 0 true = false | out 0 -3107 = 0 | go 1 = 0 | room 0 6 = 7035 | room 0 7 = 6964 | "
                + "room 0 1 = -9999",
                house + "99;\" = 1 | open 0 true = false | out 0 -3071 = 0 | go 1 = 0 | room 0 6 = 7000 | room 0 7 = 7000 | "
                + "room 0 1 = -9999 | go 1 = 0 | room 0 6 = -6858 | room 0 7 = -6858 | room 0 1 = 3717",
                house + "99;\" = 1 | open 0 true = false | out 0 -4000 = 0 | go 1 = 0 | room 0 6 = 7920 | room 0 7 = 7920 | "
                + "room 0 1 = -9999");
    }

    private static void runsAndStarts() {
        S.says("The boiler RUNS, if some HEAT is above 0", "house \"room 99 190;radiator 0 0 1;pump 99;boiler 9 200;\" = 1 | go 1 = 0 | "
                + "clock 2 = 0 | clock 1 = 0 | wear 1 = 0",
                "new | house \"room 99 190;radiator 0 0 1;pump 100;boiler 9 200;\" = 1 | go 1 = 1 | clock 2 = 1 | clock 1 = 1 | wear 1 = 2",
                "new | house \"room 99 190;room 99 400;radiator 1 0 99;radiator 0 1 1;pump 200;boiler 9 200;\" = 2 | go 1 = 1 | "
                + "radiator 0 8 = 0 | clock 2 = 1 | clock 1 = 1");
        S.says("it STARTS, if it did not RUN the MINUTE ahead", "house \"room 99 100;radiator 0 0 1;\" = 1 | clock 1 = 0 | clock 2 = 0 | "
                + "go 1 = * | clock 1 = 1 | go 1 = * | clock 1 = 1 | go 9 = * | clock 1 = 1",
                "air 0 true = false | go 1 = 0 | clock 1 = 1 | clock 2 = 0 | air 0 false = true | clock 2 = 0 | go 1 = * | clock 1 = 2 | "
                + "clock 2 = 1 | air 0 true = false | air 0 false = true | go 1 = * | clock 1 = 2",
                "go 0 = 0 | clock 2 = 1 | air 0 true = false | go 5 = 0 | clock 1 = 2 | air 0 false = true | go 5 = * | clock 1 = 3 | "
                + "wear 0 = 18 | wear 1 = 21");
    }

    private static String tap(String kind, int first, int sun) {
        return "new | house \"room 1 " + first + ";radiator 0 0 1;" + kind + " 0 210;sun 0 " + sun + " 0 24;boiler 1 200;\" = 1\n";
    }

    private static void snapMoves() {
        for (String kind : new String[] {"snap", "draught"}) {
            S.says(kind + ": 16, if it SEES less than GOAL less 20", tap(kind, 207,
                9) + "radiator 0 5 = 0 | go 1 = 0 | room 0 1 = 2079 | radiator 0 5 = 16",
                    tap(kind, 207, 10) + "go 1 = 0 | room 0 1 = 2080 | radiator 0 5 = 0", tap(kind, 207,
                    11) + "go 1 = 0 | room 0 1 = 2081 | radiator 0 5 = 0");
            S.says(kind + ": 0, if more than GOAL and 20; else it stays", tap(kind, 200,
                11) + "go 10 = 0 | room 0 1 = 2110 | radiator 0 5 = 16 | go 1 = 0 | room 0 1 = 2121 | radiator 0 5 = 0",
                    tap(kind, 200, 12) + "go 10 = 0 | room 0 1 = 2120 | radiator 0 5 = 16 | go 1 = 0 | radiator 0 5 = 0", tap(kind, 200,
                    7) + "go 17 = 0 | room 0 1 = 2119 | radiator 0 5 = 16 | go 1 = 0 | radiator 0 5 = 0");
        }
    }

    private static void draughtFeels() {
        S.says("a TAP SEES that of its ROOM (draught: 300 less while the window of that is open)", tap("draught", 237,
                9) + "open 0 true = false | go 1 = 0 | room 0 1 = 2379 | radiator 0 5 = 16",
                tap("draught", 237, 10) + "open 0 true = false | go 1 = 0 | room 0 1 = 2380 | radiator 0 5 = 0", tap("draught", 237,
                9) + "go 1 = 0 | radiator 0 5 = 0",
                tap("snap", 237, 9) + "open 0 true = false | go 1 = 0 | radiator 0 5 = 0", tap("slow", 237,
                9) + "open 0 true = false | go 1 = 0 | radiator 0 5 = 0",
                tap("draught", 230, 11) + "open 0 true = false | go 10 = 0 | radiator 0 5 = 16 | go 1 = 0 | room 0 1 = 2421 | "
                + "radiator 0 5 = 0",
                tap("draught", 230, 12) + "open 0 true = false | go 10 = 0 | room 0 1 = 2420 | radiator 0 5 = 16 | go 1 = 0 | "
                + "radiator 0 5 = 0",
                "new | house \"room 1 237;room 1 0;radiator 0 0 1;draught 0 210;sun 0 9 0 24;boiler 1 200;\" = 2 | open 1 true = false | "
                + "go 1 = 0 | radiator 0 5 = 0 | open 0 true = false | open 1 false = true",
                "go 1 = 0 | room 0 1 = 2388 | radiator 0 5 = 0 | new | "
                + "house \"room 1 0;room 1 237;radiator 1 0 1;draught 0 210;sun 1 9 0 24;boiler 1 200;\" = 2 | open 1 true = false | "
                + "go 1 = 0 | radiator 0 5 = 16");
    }

    private static void slowMoves() {
        S.says("slow: 2 more (16 at most), if it SEES less than GOAL", tap("slow", 208,
                19) + "go 1 = 0 | room 0 1 = 2099 | radiator 0 5 = 2", tap("slow", 208,
                20) + "go 1 = 0 | room 0 1 = 2100 | radiator 0 5 = 0",
                tap("slow", 208, 10) + "go 1 = 0 | radiator 0 5 = 2 | go 1 = 0 | room 0 1 = 2100 | radiator 0 5 = 2 | go 1 = 0 | "
                + "radiator 0 5 = 0",
                tap("slow", 100, 0) + "go 1 = * | radiator 0 5 = 2 | go 6 = * | radiator 0 5 = 14 | go 1 = * | radiator 0 5 = 16 | "
                + "go 1 = * | radiator 0 5 = 16 | radiator 0 10 = 0");
        S.says("slow: 2 less (0 at least), if more", tap("slow", 208,
                7) + "go 2 = 0 | room 0 1 = 2094 | radiator 0 5 = 4 | go 1 = 0 | room 0 1 = 2101 | radiator 0 5 = 2 | go 1 = 0 | "
                + "radiator 0 5 = 0 | go 1 = 0 | radiator 0 5 = 0",
                "new | house \"room 1 200;radiator 0 0 1;slow 0 210;pump 1;\" = 1 | go 9 = 0 | radiator 0 5 = 16 | night 0 0 20 = 0 | "
                + "go 1 = 0 | radiator 0 5 = 14 | go 6 = 0 | radiator 0 5 = 2 | go 1 = 0 | radiator 0 5 = 0",
                "go 1 = 0 | radiator 0 5 = 0 | radiator 0 10 = 1 | night 0 0 10 = 20 | go 3 = 0 | radiator 0 5 = 0 | night 0 0 9 = 10 | "
                + "go 1 = 0 | radiator 0 5 = 2 | radiator 0 10 = 2",
                "night 0 0 10 = 9 | go 9 = 0 | radiator 0 5 = 2 | night 0 0 11 = 10 | go 1 = 0 | radiator 0 5 = 0 | radiator 0 10 = 3");
    }

    private static void turns() {
        S.says("It TURNS, if it moves the other way than when it moved last",
                STILL + "go 1 = 0 | radiator 0 5 = 16 | radiator 0 10 = 0 | go 5 = 0 | radiator 0 10 = 0 | night 0 0 60 = 0 | go 1 = 0 | "
                + "radiator 0 5 = 0 | radiator 0 10 = 1",
                "go 5 = 0 | radiator 0 10 = 1 | night 0 0 0 = 60 | go 1 = 0 | radiator 0 5 = 16 | radiator 0 10 = 2",
                // slow: what follows the same way is none; what stays between two moves does not matter
                "new | house \"room 1 200;radiator 0 0 1;slow 0 210;pump 1;\" = 1 | go 3 = 0 | radiator 0 5 = 6 | radiator 0 10 = 0 | "
                + "night 0 0 10 = 0 | go 4 = 0 | radiator 0 5 = 6 | night 0 0 0 = 10 | go 1 = 0 | radiator 0 5 = 8 | radiator 0 10 = 0",
                "night 0 0 10 = 0 | go 4 = 0 | night 0 0 20 = 10 | go 1 = 0 | radiator 0 5 = 6 | radiator 0 10 = 1 | go 1 = 0 | "
                + "radiator 0 5 = 4 | radiator 0 10 = 1 | night 0 0 0 = 20 | go 1 = 0 | radiator 0 10 = 2 | go 9 = 0 | radiator 0 10 = 2");
    }

    private static void latestSixtyMinutes() {
        S.says("It HUNTS, if in the latest 60 MINUTES", STILL + "go 1 = 0 | night 0 0 60 = 0 | go 1 = 0 | radiator 0 10 = 1 | "
                + "hunts 1 = 1 | go 58 = 0 | radiator 0 10 = 1 | hunts 1 = 1 | go 1 = 0 | radiator 0 10 = 1 | hunts 1 = 1",
                "go 1 = 0 | radiator 0 10 = 0 | hunts 1 = 0",
                // two of them leave one after the other
                STILL + "go 1 = 0 | night 0 0 60 = 0 | go 1 = 0 | night 0 0 0 = 60 | go 1 = 0 | radiator 0 10 = 2 | hunts 2 = 1 | "
                + "go 58 = 0 | radiator 0 10 = 2 | go 1 = 0 | radiator 0 10 = 1 | hunts 2 = 0 | hunts 1 = 1 | go 1 = 0 | "
                + "radiator 0 10 = 0");
    }

    /** The window makes the draught TAP move in every MINUTE: from the second on it TURNS each time. */
    private static void huntsSoOften() {
        StringBuilder rows = new StringBuilder("house \"room 1 200;radiator 0 0 1;radiator 0 0 1;draught 1 185;pump 1;\" = 1\n");
        for (int minute = 1; minute <= 62; minute++) {
            rows.append("open 0 ").append(minute % 2 == 1).append(" = ").append(minute % 2 == 0).append(" | go 1 = 0\n");
            int turned = Math.min(60, minute - 1);
            if (minute == 1 || minute == 2 || minute >= 59) {
                rows.append("radiator 1 10 = ").append(turned).append('\n');
                for (int often = Math.max(1, turned - 1); often <= Math.min(60, turned + 1); often++) {
                    rows.append("hunts ").append(often).append(" = ").append(turned >= often ? 2 : 0).append('\n');
                }
            }
        }
        S.says("it TURNED so often as told, or more", rows.toString());
        S.says("hunts: TAPS that HUNT by a number (1 to 60), as bits of RADIATORS",
                "hunts 0 = IAE | hunts 61 = IAE | hunts -1 = IAE | hunts 2147483647 = IAE | hunts -2147483648 = IAE | hunts 1 = 0 | "
                + "hunts 60 = 0",
                "house \"room 1 200;" + "radiator 0 0 1;".repeat(8) + "snap 0 203;snap 7 203;snap 3 400;pump 1;\" = 1 | go 1 = 0 | "
                + "hunts 1 = 0 | night 0 0 60 = 0 | go 1 = 0 | hunts 1 = 129 | hunts 2 = 0 | hunts 0 = IAE | hunts 61 = IAE");
    }

    private static String coldDay() {
        StringBuilder rows = new StringBuilder();
        for (int hour = 0; hour < 24; hour++) {
            rows.append("out ").append(hour).append(" -4000 = 0\n");
        }
        return rows.toString();
    }

    /** The one RADIATOR that is OPEN gives all of POWER in each MINUTE. */
    private static void metersEnd() {
        String house = "new | house \"room 99 0;outer 0 99;radiator 0 0 99;radiator 0 1 99;pump 999;boiler ";
        String begin = "air 1 true = false\n" + coldDay() + "go 999 = *\n".repeat(10);
        S.says("METERS count HEATS of RADIATORS (100,000,000 of each at most)",
                house + "10000 900;\" = 1 | " + begin + "go 9 = 90000 | radiator 0 9 = 99990000 | go 1 = 10000 | radiator 0 9 = 100000000",
                "go 1 = 10000 | radiator 0 9 = 100000000 | radiator 0 8 = 10000 | room 0 8 = 10000 | error 0 50 = 0 | "
                + "radiator 0 9 = 150000000 | error 0 -50 = 50 | radiator 0 9 = 50000000 | error 0 1 = -50 | radiator 0 9 = 101000000",
                "radiator 1 9 = 0 | air 1 false = true | air 0 true = false | go 1 = 10000 | radiator 1 9 = 10000 | "
                + "radiator 0 9 = 101000000",
                house + "9999 900;\" = 1 | " + begin + "go 10 = 99990 | radiator 0 9 = 99990000 | go 1 = 9999 | radiator 0 9 = 99999999 | "
                + "error 0 50 = 0 | radiator 0 9 = 149999998 | error 0 0 = 50 | go 1 = 9999 | radiator 0 9 = 100000000",
                "go 1 = 9999 | radiator 0 9 = 100000000");
    }

    private static void atFirst() {
        S.says("room: (5 to 9: 0 at first; a loss below 0 is a gain)",
                "house \"room 99 100;room 99 200;wall 0 1 50;outer 0 50;window 0 50;sun 0 7 0 24;radiator 0 0 9;\" = 2 | "
                + "open 0 true = false | out 0 2000 = 0",
                "room 0 5 = 0 | room 0 6 = 0 | room 0 7 = 0 | room 0 8 = 0 | room 0 9 = 0 | go 0 = 0 | room 0 9 = 0 | go 1 = 450 | "
                + "room 0 5 = -500 | room 0 6 = -500 | room 0 7 = -500 | room 0 8 = 450 | room 0 9 = 7 | room 1 5 = 500");
        S.says("room: IndexOutOfBoundsException: no such ROOM; IllegalArgumentException: another what",
                "room 0 0 = IOOBE | house \"room 1 1;\" = 1 | room 0 0 = 1 | room 1 0 = IOOBE | room -1 0 = IOOBE | room 0 10 = IAE | "
                + "room 0 -1 = IAE | room 0 9 = 0",
                "room 2147483647 0 = IOOBE | room -2147483648 0 = IOOBE | room 0 2147483647 = IAE | house \"" + "room 1 1;".repeat(8)
                + "\" = 8 | room 7 0 = 1 | room 8 0 = IOOBE | wall 7 0 = 0 | wall 7 8 = IOOBE | wall 8 7 = IOOBE | wall -1 7 = IOOBE | "
                + "wall 7 -1 = IOOBE",
                "open 7 true = false | open 8 true = IOOBE | open -1 true = IOOBE | count 3 = 1 | blame 7 = -1 | blame 8 = IOOBE | "
                + "blame -1 = IOOBE");
        S.says("room: 4 whether its window is open (1, 0)", "house \"room 1 1;room 1 1;\" = 2 | room 0 4 = 0 | open 0 true = false | "
                + "room 0 4 = 1 | room 1 4 = 0 | open 0 true = true | room 0 4 = 1",
                "open 1 true = false | room 1 4 = 1 | open 0 false = true | room 0 4 = 0 | room 1 4 = 1 | open 0 false = false | "
                + "room 0 4 = 0");
        S.says("wall: (0 of one with itself)", "house \"room 1 1;room 1 1;wall 0 1 99;\" = 2 | wall 0 0 = 0 | wall 1 1 = 0 | "
                + "wall 0 1 = 99 | wall 1 0 = 99 | wall 2 2 = IOOBE");
        S.says("radiator: 7 FLOW, 8 HEAT of the latest MINUTE (0 at first); no such RADIATOR; another what",
                "radiator 0 0 = NSEE | house \"room 9 1;radiator 0 0 1;\" = 1 | radiator 0 7 = 0 | radiator 0 8 = 0 | go 1 = * | "
                + "radiator 0 7 = 100 | radiator 0 8 = 59",
                "radiator 1 0 = NSEE | radiator -1 0 = NSEE | radiator 0 11 = IAE | radiator 0 -1 = IAE | radiator 0 10 = 0 | "
                + "radiator 2147483647 0 = NSEE | radiator -2147483648 0 = NSEE | radiator 0 2147483647 = IAE");
    }

    private static void minutesOfGo() {
        S.says("go: So many MINUTES (0 to 999) go by", "house \"room 99 0;radiator 0 0 99;boiler 7 900;\" = 1 | go 0 = 0 | clock 0 = 0 | "
                + "go 1 = 7 | go 998 = 6986 | go 999 = 6993 | clock 0 = 1998 | go 1000 = IAE | go -1 = IAE",
                "go 2147483647 = IAE | go -2147483648 = IAE | clock 0 = 1998");
        S.says("go: IllegalStateException: there is no HOUSE", "go 0 = ISE | go 1 = ISE | go 999 = ISE | house \"room 1\" = -9 | "
                + "go 1 = ISE | clock 0 = 0 | house \"room 1 1;\" = 1 | go 0 = 0 | go 1 = 0 | clock 0 = 1");
    }

    /** Its boiler RUNS in every other MINUTE: a ROOM of 9,999 has nothing of its water, and loses nearly all till the next one. */
    private static void last512thCall() {
        String hunting = "house \"room 1 0;outer 0 99;radiator 0 0 99;pump 999;boiler 99999 900;\" = 1\n";
        // four calls of feed, house, and 505 times 999 MINUTES
        S.says("An object is used for at most 512 calls", hunting + "go 999 = *\n".repeat(505) + "clock 0 = 504495 | wear 999 = 252248000",
                "new | " + hunting + "go 999 = *\n".repeat(505) + "dead 3 = 504495 | radiator 0 9 = 100000000",
                "new | " + hunting + "go 999 = *\n".repeat(505) + "clock 1 = 252248 | clock 3 = 8",
                "new", "feed 538976288 538976288 538976288 538976288 538976288 = 20 | house 20 = -6\n".repeat(255)
                + "house \"room 1 1;\" = 1");
    }
}
