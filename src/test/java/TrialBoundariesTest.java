/** The boundaries that the document names for the LOG, WRONG things, BALANCED, WAKE and WISHES: Terms 3 and 4. */
public final class TrialBoundariesTest {
    private static final Sentences S = new Sentences();
    private static final int MOST = Integer.MAX_VALUE;
    private static final int LEAST = Integer.MIN_VALUE;
    /** Behind each MINUTE it has one hundredth more, and its water gives no HEAT. */
    private static final String RISING = "new | house \"room 1 0;radiator 0 0 1;pump 1;sun 0 1 0 24;\" = 1\n";
    private static final String STILL = "new | house \"room 1 200;\" = 1\n";

    public static void main(String[] args) {
        rowsOfTheLog();
        twentyRows();
        behindSoManyMinutes();
        atMostThatFar();
        eachRow();
        thingsOfAFullHouse();
        thingsOfTapsAlone();
        fromTheBeginning();
        asTheyAre();
        tapsThatStay();
        airInEachPipe();
        windowOfEachRoom();
        seeEachOthersRoom();
        twiceOne();
        fewestThings();
        noHouse();
        screwsOfBalanced();
        firstFourRadiators();
        balancedMinutes();
        trialsWithAllElseAsItIs();
        trialsBeginWith();
        balancedArguments();
        wakeMinutes();
        wakeOuts();
        wishes();
        S.end();
    }

    private static void rowsOfTheLog() {
        S.says("A LOG: rows of a MINUTE (1 to 240), a ROOM and a TEMPERATURE",
                STILL + "log 0 0 0 = IAE | log 1 0 0 = 1 | log 2 0 0 = 2 | log 239 0 0 = 3 | log 240 0 0 = 4 | log 241 0 0 = IAE",
                "log -1 0 0 = IAE | log " + MOST + " 0 0 = IAE | log " + LEAST + " 0 0 = IAE | count 0 = 4");
        S.says("log: IllegalArgumentException: the MINUTE, or the TEMPERATURE (-9,999 to 9,999)",
                STILL + "log 1 0 -10000 = IAE | log 1 0 -9999 = 1 | log 1 0 -9998 = 2 | log 1 0 9998 = 3 | log 1 0 9999 = 4",
                "log 1 0 10000 = IAE | log 1 0 " + MOST + " = IAE | log 1 0 " + LEAST + " = IAE | count 0 = 4");
        S.says("log: IndexOutOfBoundsException: the ROOM",
                "log 1 0 0 = IOOBE | log 0 0 0 = IOOBE", STILL + "log 1 0 0 = 1 | log 1 1 0 = IOOBE | log 1 -1 0 = IOOBE",
                "log 1 " + MOST + " 0 = IOOBE | log 1 " + LEAST + " 0 = IOOBE | count 0 = 1",
                "house \"" + "room 1 1;".repeat(8) + "\" = 8 | count 0 = 0 | log 1 7 0 = 1 | log 1 8 0 = IOOBE | count 0 = 1");
    }

    private static void twentyRows() {
        StringBuilder rows = new StringBuilder(STILL);
        for (int i = 1; i <= 20; i++) {
            rows.append("log ").append(12 * i).append(" 0 2000 = ").append(i).append(" | count 0 = ").append(i).append('\n');
        }
        S.says("20 at most; log: how many there are; -1: there are 20", rows.toString(),
                "explained -1 -1 0 = true | log 5 0 7 = -1 | count 0 = 20",
                "explained -1 -1 0 = true | cause 0 0 = -1 | log 240 0 7 = -1 | log 0 0 7 = IAE | log 1 1 7 = IOOBE | count 0 = 20 | "
                + "explained -1 -1 0 = true",
                "house \"room 1 200;\" = 1 | count 0 = 0 | log 5 0 7 = 1 | explained -1 -1 0 = false");
    }

    private static void behindSoManyMinutes() {
        S.says("what the ROOM has behind so many MINUTES", RISING + "log 1 0 1 = 1 | log 240 0 240 = 2 | log 120 0 120 = 3 | "
                + "log 2 0 2 = 4 | log 239 0 239 = 5 | explained -1 -1 0 = true",
                RISING + "log 240 0 239 = 1 | explained -1 -1 0 = false | explained -1 -1 1 = true",
                RISING + "log 240 0 241 = 1 | explained -1 -1 0 = false | explained -1 -1 1 = true",
                RISING + "log 1 0 0 = 1 | explained -1 -1 0 = false | explained -1 -1 1 = true",
                RISING + "log 1 0 2 = 1 | explained -1 -1 0 = false | explained -1 -1 1 = true",
                // rows of one MINUTE, and told in any order
                "new | house \"room 1 100;room 1 0;sun 1 1 0 24;\" = 2 | log 9 1 9 = 1 | log 3 1 3 = 2 | log 9 0 1000 = 3 | "
                + "log 3 0 1000 = 4 | log 200 1 200 = 5 | explained -1 -1 0 = true | log 3 1 4 = 6 | explained -1 -1 0 = false");
    }

    private static void atMostThatFar() {
        S.says("each row is at most that far", STILL + "log 5 0 2007 = 1 | explained -1 -1 6 = false | explained -1 -1 7 = true | "
                + "explained -1 -1 8 = true | cause 7 0 = -1 | cause 6 0 = -2",
                STILL + "log 5 0 1993 = 1 | explained -1 -1 6 = false | explained -1 -1 7 = true | explained -1 -1 8 = true | "
                + "cause 7 1 = -1 | cause 6 1 = -2",
                STILL + "log 5 0 2000 = 1 | explained -1 -1 0 = true | log 5 0 2001 = 2 | explained -1 -1 0 = false | "
                + "explained -1 -1 1 = true | log 5 0 1999 = 3 | explained -1 -1 1 = true");
        S.says("explained, cause: within a number (0 to 9,999)", "new | house \"room 1 0;\" = 1 | log 1 0 -9999 = 1 | "
                + "explained -1 -1 9998 = false | explained -1 -1 9999 = true | explained -1 -1 10000 = IAE | explained -1 -1 -1 = IAE",
                "cause 9999 0 = -1 | cause 9998 0 = -2 | cause 10000 0 = IAE | cause -1 0 = IAE | cause " + MOST + " 0 = IAE | cause "
                + LEAST + " 0 = IAE | explained -1 -1 " + MOST + " = IAE | explained -1 -1 " + LEAST + " = IAE",
                "new | house \"room 1 1;\" = 1 | log 1 0 -9999 = 1 | explained -1 -1 9999 = false | cause 9999 0 = -2 | cause 0 0 = -2",
                "new | house \"room 1 400;sun 0 999 0 24;\" = 1 | log 9 0 -9999 = 1 | explained -1 -1 9999 = false | log 9 0 9999 = 2 | "
                + "cause 9999 1 = -2");
    }

    private static void eachRow() {
        for (int odd = 1; odd <= 3; odd++) {
            StringBuilder rows = new StringBuilder(STILL);
            for (int i = 1; i <= 3; i++) {
                rows.append("log ").append(80 * i).append(" 0 ").append(i == odd ? 2001 : 2000).append(" = ").append(i).append('\n');
            }
            S.says("EXPLAINED .. if .. each row", rows.toString(), "explained -1 -1 0 = false | explained -1 -1 1 = true");
        }
        S.says("EXPLAINED .. if .. each row (of none)", STILL + "explained -1 -1 0 = true | explained 20 30 0 = true | cause 0 0 = -1 | "
                + "cause 0 1 = -1");
    }

    /** What explained throws for each number, as one thing and as the other. */
    private static void numbersOfThings(String sentence, String house, java.util.Set<Integer> things) {
        StringBuilder rows = new StringBuilder("new | ").append(house).append(" = * | things = ").append(things.size()).append('\n');
        for (int thing = -12; thing <= 60; thing++) {
            String due = thing == -1 || things.contains(thing) ? "true" : "IAE";
            rows.append("explained ").append(thing).append(" -1 0 = ").append(due).append(" | "
                + "explained -1 ").append(thing).append(" 0 = ").append(due).append('\n');
            rows.append("explained ").append(thing).append(" 20 0 = ").append(due).append('\n');
        }
        for (int thing : new int[] {100, 120, 1020, 65556, MOST, LEAST, LEAST + 20}) {
            rows.append("explained ").append(thing).append(" -1 0 = IAE | explained -1 ").append(thing).append(" 0 = IAE\n");
        }
        S.says(sentence, rows.toString());
    }

    private static java.util.Set<Integer> set(int... things) {
        java.util.Set<Integer> set = new java.util.TreeSet<>();
        for (int thing : things) {
            set.add(thing);
        }
        return set;
    }

    private static void thingsOfAFullHouse() {
        StringBuilder house = new StringBuilder("house \"").append("room 1 1;".repeat(8)).append("radiator 0 0 1;".repeat(8));
        java.util.Set<Integer> all = set(20, 21, 22, 23);
        for (int k = 0; k < 8; k++) {
            house.append("snap ").append(k).append(" 1;");
            all.add(k);
            all.add(10 + k);
            all.add(30 + k);
            if (k < 7) {
                all.add(40 + k);
            }
        }
        numbersOfThings("WRONG may be, told as 10 times the kind and a number", house.append('"').toString(), all);
    }

    private static void thingsOfTapsAlone() {
        String rooms = "house \"room 1 1;room 1 1;";
        numbersOfThings("kind 0, 1 (of a RADIATOR that has one), 4 (both have one)",
                rooms + "radiator 0 0 1;radiator 0 0 1;radiator 0 0 1;radiator 0 0 1;snap 0 1;slow 2 1;draught 3 1;\"",
                set(0, 2, 3, 10, 12, 13, 20, 21, 22, 23, 30, 31, 42));
        numbersOfThings("kind 4 the TAPS of a RADIATOR and of the next one",
                rooms + "radiator 0 0 1;radiator 0 0 1;snap 0 1;slow 1 1;\"", set(0, 1, 10, 11, 20, 21, 22, 23, 30, 31, 40));
        numbersOfThings("kind 2 AIR in a PIPE (each of 0 to 3), 3 the window of a ROOM", rooms + "radiator 0 0 1;\"", set(20, 21, 22, 23,
                30, 31));
        S.says("things: How many WRONG things there may be in this HOUSE",
                "things = 4 | house \"room 1\" = -9 | things = 4 | house \"room 1 1;\" = 1 | things = 5");
    }

    private static void fromTheBeginning() {
        String house = "new | house \"room 9 200;room 9 200;radiator 0 0 9;radiator 1 1 9;snap 0 300;outer 0 9;window 0 9;\" = 2\n";
        S.says("from the beginning (TEMPERATURES as in the text, TAPS shut, MINUTE 0, windows shut, no AIR)",
                house + "go 1 = * | room 0 1 = @a | room 1 1 = @b | go 2 = * | room 0 1 = @c | room 1 1 = @d",
                house + "go 99 = * | open 0 true = false | open 1 true = false | air 0 true = false | air 1 true = false | go 99 = * | "
                + "log 1 0 @a = 1 | log 1 1 @b = 2 | log 3 0 @c = 3 | log 3 1 @d = 4 | explained -1 -1 0 = true",
                // nothing of the trial stays
                "clock 0 = 198 | count 3 = 2 | count 4 = 2 | cause 0 0 = -1 | clock 0 = 198",
                // MINUTE 0 is in HOUR 0, whatever HOUR it is now
                "new | house \"room 1 0;sun 0 5 0 1;\" = 1 | go 120 = 0 | log 60 0 300 = 1 | log 61 0 300 = 2 | log 59 0 295 = 3 | "
                + "explained -1 -1 0 = true");
    }

    private static void asTheyAre() {
        String two = "new | house \"room 1 200;room 1 200;radiator 0 0 9;radiator 1 1 9;\" = 2 | log 1 0 2180 = 1 | "
                + "explained -1 -1 0 = true\n";
        String tap = "new | house \"room 1 200;radiator 0 0 1;snap 0 210;pump 10;\" = 1 | log 2 0 2004 = 1 | explained -1 -1 0 = true\n";
        S.says("(SCREWS, OUT, NIGHT, HOLIDAYS, WATER of HOURS and pump as they are)",
                two + "screw 0 8 = 16 | explained -1 -1 0 = false | explained -1 -1 62 = true | explained -1 -1 61 = false | "
                + "screw 1 8 = 16 | explained -1 -1 0 = true",
                two + "pump 99 = 100 | explained -1 -1 0 = false | pump 100 = 99 | explained -1 -1 0 = true",
                two + "water 0 610 = 0 | explained -1 -1 0 = false | water 0 600 = 610 | explained -1 -1 0 = true | water 1 900 = 0 | "
                + "explained -1 -1 0 = true",
                tap + "night 0 0 8 = 0 | explained -1 -1 0 = false | night 0 0 7 = 8 | explained -1 -1 0 = true | night 1 0 200 = 7 | "
                + "explained -1 -1 0 = true",
                tap + "holiday 0 1 8 = 1 | explained -1 -1 0 = false",
                tap + "holiday 0 1 7 = 1 | explained -1 -1 0 = true | holiday 1 9 200 = 2 | explained -1 -1 0 = true",
                "new | house \"room 1 200;outer 0 1;\" = 1 | log 1 0 1980 = 1 | explained -1 -1 0 = true | out 0 100 = 0 | "
                + "explained -1 -1 0 = false | explained -1 -1 1 = true | out 0 0 = 100 | out 1 100 = 0 | explained -1 -1 0 = true");
    }

    private static void tapsThatStay() {
        // its TAP opens behind the first MINUTE, shut and open it has 2000 and 2040 behind that
        String house = "new | house \"room 10 200;radiator 0 0 10;snap 0 300;\" = 1\n";
        S.says("kind 0 a TAP that stays at 0, 1 a TAP that stays at 16 (both from the beginning)",
                house + "log 1 0 2000 = 1 | log 2 0 2040 = 2 | explained -1 -1 0 = true | explained 0 -1 0 = false | "
                + "explained 10 -1 0 = false",
                house + "log 1 0 2000 = 1 | log 240 0 2000 = 2 | explained 0 -1 0 = true | explained -1 -1 0 = false | "
                + "explained 10 -1 0 = false | cause 0 0 = 0 | cause 0 1 = -1",
                house + "log 1 0 2040 = 1 | log 2 0 2079 = 2 | explained 10 -1 0 = true | explained -1 -1 0 = false | "
                + "explained 0 -1 0 = false | cause 0 0 = 10 | cause 0 1 = -1",
                // it stays at 16 though its ROOM is far too warm
                "new | house \"room 10 200;radiator 0 0 10;snap 0 0;\" = 1 | log 1 0 2040 = 1 | log 2 0 2079 = 2 | cause 0 0 = 10 | "
                + "explained 10 -1 0 = true");
        // what is shut takes none of the water: the other RADIATOR has all of it
        S.says("kind 0 a TAP that stays at 0, beside another one", "new | "
                + "house \"room 10 200;room 10 200;radiator 0 0 10;snap 0 300;radiator 1 1 10;\" = 2 | log 2 1 2079 = 1 | "
                + "log 1 1 2040 = 2 | log 2 0 2000 = 3 | explained 0 -1 0 = true | cause 0 0 = 0 | explained -1 -1 0 = false");
        S.says("(a TAP that stays at 0 and at 16 stays at 16)", house + "log 1 0 2040 = 1 | explained 0 10 0 = true | "
                + "explained 10 0 0 = true | explained 0 0 0 = false");
    }

    private static void airInEachPipe() {
        for (int pipe = 0; pipe < 4; pipe++) {
            String radiators = "radiator 0 " + pipe + " 10;";
            S.says("2 AIR in a PIPE (each of 0 to 3)", "house \"room 10 200;" + radiators + "\" = 1 | log 1 0 2000 = 1 | cause 0 0 = "
                + (20 + pipe) + " | cause 0 1 = -1 | explained " + (20 + pipe) + " -1 0 = true",
                    "explained " + (20 + (pipe + 1) % 4) + " -1 0 = false");
        }
    }

    private static void windowOfEachRoom() {
        StringBuilder rooms = new StringBuilder();
        for (int room = 0; room < 8; room++) {
            rooms.append("room 1 100;window ").append(room).append(" 5;");
        }
        for (int room = 0; room < 8; room++) {
            S.says("3 the window of a ROOM open all the time", "house \"" + rooms + "\" = 8 | log 1 " + room + " 950 = 1 | log 2 " + room
                + " 903 = 2 | cause 0 0 = " + (30 + room) + " | cause 0 1 = -1",
                    "log 1 " + (room + 1) % 8 + " 950 = 3 | cause 0 0 = " + Math.min(30 + room,
                    30 + (room + 1) % 8) + " | cause 0 1 = " + Math.max(30 + room, 30 + (room + 1) % 8),
                    "log 1 " + (room + 2) % 8 + " 950 = 4 | cause 0 0 = -2 | cause 0 1 = -2");
        }
    }

    private static void seeEachOthersRoom() {
        // both ROOMS stay at 2000; a draught TAP opens only by an open window where it looks
        String house = "new | house \"room 99 200;room 99 200;radiator 0 0 99;radiator 1 1 99;draught 0 185;draught 1 185;\" = 2\n";
        S.says("4 the TAPS .. SEE each other's ROOM (windows, too)", house + "log 2 0 2040 = 1 | log 2 1 2000 = 2 | "
                + "explained 31 40 0 = true | explained 40 31 0 = true | explained 31 -1 0 = false | explained 40 -1 0 = false",
                "explained 30 -1 0 = true | explained 30 40 0 = false | cause 0 0 = 30 | cause 0 1 = -1",
                "new | house \"room 99 100;room 99 200;radiator 0 0 99;radiator 1 1 99;snap 0 150;snap 1 150;\" = 2 | log 2 0 1000 = 1 | "
                + "log 2 1 2040 = 2 | cause 0 0 = 40 | cause 0 1 = -1 | explained -1 -1 0 = false");
    }

    private static void twiceOne() {
        String house = "new | house \"room 99 100;room 99 200;radiator 0 0 99;radiator 1 1 99;snap 0 150;snap 1 150;\" = 2 | "
                + "log 2 0 1000 = 1 | log 2 1 2040 = 2\n";
        S.says("explained: (NONE: none; twice one: that one)", house + "explained 40 40 0 = true | explained 40 -1 0 = true | "
                + "explained -1 40 0 = true | explained -1 -1 0 = false",
                house + "explained 20 20 0 = false | explained 20 40 0 = true | explained 40 20 0 = true");
        S.says("(Of two the lesser comes first: .. what was SEEN by exchange is exchanged again.)",
                "new | house \"room 1 100;room 1 200;room 1 200;radiator 0 0 1;radiator 1 1 1;radiator 2 2 1;snap 0 150;snap 1 150;snap 2 150;pump 32;boiler 99999 900;\" = 3",
                "log 2 2 2022 = 1 | explained 40 41 0 = true | explained 41 40 0 = true | explained 41 41 0 = false | "
                + "explained 40 40 0 = false | log 1 2 2000 = 2 | cause 0 0 = 40 | cause 0 1 = 41");
    }

    private static void fewestThings() {
        String house = "new | house \"room 10 200;room 10 200;room 10 200;radiator 0 0 10;radiator 1 1 10;radiator 2 2 10;\" = 3\n";
        S.says("CAUSE: the set of the fewest such things (0, 1 or 2)", house + "log 1 0 2013 = 1 | cause 0 0 = -1 | cause 0 1 = -1",
                house + "log 1 0 2020 = 1 | cause 0 0 = 21 | cause 0 1 = -1 | log 1 2 2020 = 2 | cause 0 0 = 21 | cause 0 1 = -1",
                house + "log 1 0 2040 = 1 | cause 0 0 = 21 | cause 0 1 = 22",
                house + "log 1 2 2040 = 1 | cause 0 0 = 20 | cause 0 1 = 21", house + "log 1 1 2040 = 1 | cause 0 0 = 20 | cause 0 1 = 22",
                house + "log 1 0 2041 = 1 | cause 0 0 = -2 | cause 0 1 = -2 | cause 1 0 = 21 | cause 1 1 = 22 | cause 20 0 = 21 | "
                + "cause 20 1 = 22 | cause 21 0 = 21 | cause 21 1 = -1 | cause 27 0 = 21 | cause 28 0 = -1",
                // by three things alone
                house + "log 1 0 2000 = 1 | log 1 1 2000 = 2 | cause 0 0 = 20 | cause 0 1 = 21 | log 1 2 2000 = 3 | cause 0 0 = -2");
        S.says("of these the first (by the lesser one, then by the greater one)",
                "new | house \"room 9 200;radiator 0 0 9;snap 0 0;radiator 0 1 9;snap 1 0;\" = 1 | log 1 0 2040 = 1 | cause 0 0 = 10 | "
                + "cause 0 1 = -1",
                "new | house \"room 1 200;room 1 200;radiator 0 0 1;radiator 1 0 1;snap 0 100;snap 1 100;pump 10;\" = 2 | "
                + "log 1 0 2002 = 1 | log 1 1 2002 = 2 | cause 0 0 = 10 | cause 0 1 = 11");
        // the first and the last of all: TAP 0 shut with AIR in PIPE 3; the last TAP SEES the ROOM of the one ahead of it
        S.says("of these the first: the first and the last thing of all",
                "new | house \"room 10 200;radiator 0 0 10;snap 0 300;radiator 0 3 10;\" = 1 | log 2 0 2000 = 1 | cause 0 0 = 0 | "
                + "cause 0 1 = 23 | explained 0 23 0 = true | explained 20 23 0 = true",
                "new | house \"" + "room 1 200;".repeat(7) + "room 1 100;window 7 9;" + "radiator 0 0 1;".repeat(6)
                + "radiator 7 1 1;radiator 6 2 1;snap 6 150;snap 7 150;pump 32;boiler 99999 900;\" = 8",
                "log 2 6 2002 = 1 | log 2 7 1000 = 2 | cause 0 0 = 46 | cause 0 1 = -1 | new | house \"" + "room 1 200;".repeat(7)
                + "room 1 100;window 7 9;" + "radiator 0 0 1;".repeat(6)
                + "radiator 7 1 1;radiator 6 2 1;snap 6 150;snap 7 150;pump 32;boiler 99999 900;\" = 8",
                "log 2 6 2002 = 1 | log 1 7 910 = 2 | log 2 7 829 = 3 | cause 0 0 = 37 | cause 0 1 = 46");
        S.says("cause: the lesser (0) or the greater one (1)", STILL + "cause 0 0 = -1 | cause 0 1 = -1 | cause 0 2 = IAE | "
                + "cause 0 -1 = IAE | cause 0 " + MOST + " = IAE | cause 0 " + LEAST + " = IAE");
    }

    private static void noHouse() {
        S.says("IllegalStateException: there is no HOUSE (so below)",
                "explained -1 -1 0 = ISE | explained 20 23 9999 = ISE | cause 0 0 = ISE | cause 9999 1 = ISE | turning 0 0 = ISE | "
                + "wake 0 0 0 = ISE | wake -4000 4000 9999 = ISE",
                "house \"pump 1;\" = -6 | explained -1 -1 0 = ISE | cause 0 0 = ISE | turning 0 0 = ISE | wake 0 0 0 = ISE | "
                + "balanced 0 0 0 = NSEE | wish 0 0 0 -1 = NSEE | go 0 = ISE",
                "house \"room 1 1;\" = 1 | explained -1 -1 0 = true | cause 0 0 = -1 | turning 0 0 = 0 | wake 0 0 0 = 0 | go 0 = 0");
    }

    /** Any way will do, so that each SCREW goes to the nearest of 4, 8, 12 and 16; of two, to the less. */
    private static void screwsOfBalanced() {
        int[] due = {0, 4, 4, 4, 4, 4, 4, 8, 8, 8, 8, 12, 12, 12, 12, 16, 16};
        StringBuilder rows = new StringBuilder("house \"room 1 100;radiator 0 0 1;\" = 1\n");
        for (int screw = 1; screw <= 16; screw++) {
            rows.append("screw 0 ").append(screw).append(" = * | balanced 0 0 0 = ").append(due[screw]).append(" | "
                + "turning 0 0 = ").append(Math.abs(due[screw] - screw));
            rows.append(" | radiator 0 6 = ").append(screw).append('\n');
        }
        S.says("to put the SCREWS .. to 4, 8, 12 or 16 .. the one of the least TURNING .. (less ahead)", rows.toString());
        // from 6 and 10 both go by 2: RADIATOR 0 is looked at first
        S.says("of these the first (RADIATOR 0 first, less ahead)", "house \"room 50 100;room 50 100;radiator 0 0 10;radiator 1 1 10;\" = 2 | screw 0 6 = 16 | screw 1 10 = 16 | turning 0 0 = 4 | balanced 0 0 0 = 4 | balanced 1 0 0 = 8",
                // only with alike SCREWS both have the half: 8 and 8 are the nearest alike ones
                "mark = 1 | screw 0 16 = 6 | screw 1 16 = 10 | go 180 = * | room 0 1 = @half | room 1 1 = @half | back = 0 | "
                + "turning 0 @half = 4 | balanced 0 0 @half = 8 | balanced 1 0 @half = 8",
                "screw 0 4 = 6 | screw 1 12 = 10 | turning 0 @half = 8 | balanced 0 0 @half = 4 | balanced 1 0 @half = 4 | "
                + "turning 0 @half+1 = -1 | balanced 0 0 @half+1 = -1 | balanced 1 0 @half+1 = -1");
    }

    private static void firstFourRadiators() {
        for (int many : new int[] {1, 3, 4, 5, 8}) {
            StringBuilder rows = new StringBuilder("house \"room 1 100;" + "radiator 0 0 1;".repeat(many) + "\" = 1\n");
            int turning = 0;
            for (int k = 0; k < many; k++) {
                rows.append("screw ").append(k).append(" 1 = 16\n");
                turning += k < 4 ? 3 : 0;
            }
            rows.append("turning 0 0 = ").append(turning).append('\n');
            for (int k = 0; k < many; k++) {
                rows.append("balanced ").append(k).append(" 0 0 = ").append(k < 4 ? 4 : 1).append(" | "
                + "balanced ").append(k).append(" 0 9999 = -1\n");
            }
            rows.append("balanced ").append(many).append(" 0 0 = NSEE | balanced -1 0 0 = NSEE | turning 0 9999 = -1\n");
            S.says("BALANCED: .. the SCREWS of the first RADIATORS (4 at most); (as it is of those behind the fourth)", rows.toString());
        }
        String five = "new | house \"room 99 100;room 99 400;" + "radiator 0 0 20;".repeat(4) + "radiator 1 0 20;boiler 99999 900;\" = 2\n";
        S.says("TURNING (how far SCREWS are from where they are, together), the farthest", five + "go 180 = * | room 0 1 = @most",
                five + "screw 0 1 = 16 | screw 1 1 = 16 | screw 2 1 = 16 | screw 3 1 = 16",
                "turning 0 @most = 60 | balanced 0 0 @most = 16 | balanced 3 0 @most = 16 | balanced 4 0 @most = 16 | "
                + "turning 0 @most+1 = -1 | balanced 4 0 @most+1 = -1");
    }

    private static void balancedMinutes() {
        S.says("behind 180 MINUTES all ROOMS that have RADIATORS have a told TEMPERATURE or more",
                RISING + "turning 0 179 = 0 | turning 0 180 = 0 | turning 0 181 = -1 | balanced 0 0 180 = 16 | balanced 0 0 181 = -1",
                "go 100 = 0 | turning 0 180 = 0 | turning 0 181 = -1",
                "new | house \"room 1 0;room 1 0;radiator 0 0 1;pump 1;sun 0 1 0 24;\" = 2 | turning 0 180 = 0 | turning 0 181 = -1",
                "new | house \"room 1 0;room 1 0;radiator 0 0 1;radiator 1 0 1;pump 1;sun 0 1 0 24;\" = 2 | turning 0 0 = 0 | "
                + "turning 0 1 = -1",
                "new | house \"room 1 0;room 1 400;radiator 1 0 1;radiator 0 0 1;pump 1;\" = 2 | turning 0 0 = 0 | turning 0 1 = -1",
                "new | house \"room 1 0;sun 0 1 0 24;\" = 1 | turning 0 9999 = 0 | balanced 0 0 0 = NSEE");
        S.says("OUT being one told TEMPERATURE all HOURS (windows shut, no AIR, NIGHT as it is)",
                "new | house \"room 99 0;outer 0 99;window 0 99;radiator 0 0 1;pump 1;\" = 1 | out 0 4000 = 0 | out 1 4000 = 0 | "
                + "out 2 4000 = 0 | go 180 = 0 | room 0 1 = @warm",
                "out 0 0 = 4000 | out 1 0 = 4000 | out 2 0 = 4000 | open 0 true = false | turning 4000 @warm = 0 | "
                + "turning 4000 @warm+1 = -1 | turning 0 0 = 0 | turning 0 1 = -1 | turning -1 0 = 0 | turning -100 0 = -1",
                "new | house \"room 10 200;radiator 0 0 10;snap 0 210;\" = 1 | air 0 true = false | turning 0 2040 = 0 | "
                + "night 0 0 7 = 0 | turning 0 2040 = 0 | night 0 0 8 = 7 | turning 0 2001 = -1 | turning 0 2000 = 0");
    }

    /** Its water of 600 tenths never makes it 7000, that of 900 makes it 7812 in the end; with a pump of 1 it stays at 2000. */
    private static void trialsWithAllElseAsItIs() {
        String house = "new | house \"room 10 200;radiator 0 0 10;\" = 1\n";
        String tap = "new | house \"room 10 200;radiator 0 0 10;snap 0 210;\" = 1\n";
        String hot = "water 0 900 = 0 | water 1 900 = 0 | water 2 900 = 0 | water 3 900 = 0\n";
        S.says("BALANCED: from the beginning (.. HOLIDAYS, WATER of HOURS and pump as they are)",
                house + "turning 0 7000 = -1 | balanced 0 0 7000 = -1\n" + hot + "turning 0 7812 = 0 | turning 0 7813 = -1 | "
                + "balanced 0 0 7812 = 16",
                house + "turning 0 2001 = 0 | pump 1 = 100 | turning 0 2001 = -1 | balanced 0 0 2001 = -1 | turning 0 2000 = 0",
                tap + "turning 0 2001 = 0 | holiday 180 999 200 = 1 | turning 0 2001 = 0 | holiday 0 180 7 = 2 | turning 0 2001 = 0",
                "holiday 0 180 8 = 3 | turning 0 2001 = -1 | balanced 0 0 2001 = -1 | turning 0 2000 = 0",
                // from MINUTE 0, whatever MINUTE it is now
                tap + "holiday 200 999 200 = 1 | go 250 = * | turning 0 2001 = 0");
        S.says("WAKE: from now on (as all is): WATER of HOURS, pump and SCREWS",
                house + "wake 0 0 7000 = -1\n" + hot + "wake 0 0 7000 = 130",
                house + "pump 999 = 100 | wake 0 0 5000 = 20 | pump 100 = 999 | wake 0 0 5000 = 150 | pump 1 = 100 | wake 0 0 2001 = -1",
                "new | house \"room 10 200;room 10 200;radiator 0 0 10;radiator 1 1 10;\" = 2 | wake 0 0 2150 = 10 | "
                + "screw 0 8 = 16 | wake 0 0 2150 = 20 | open 0 true = false | wake 0 0 2150 = 20");
        S.says("A WISH: from now on: NIGHT, HOLIDAYS, WATER of HOURS and pump as they are",
                "new | house \"room 10 200;radiator 0 0 10;snap 0 190;\" = 1 | wish 0 13 2 -1 = 400 | pump 50 = 100 | "
                + "wish 0 13 2 -1 = 200 | water 0 900 = 0 | wish 0 13 2 -1 = 350 | night 0 0 1 = 0 | wish 0 13 2 -1 = 0",
                "wish 0 14 2 -1 = 350 | holiday 0 9 2 = 1 | wish 0 14 2 -1 = 0 | wish 0 15 2 -1 = 350 | go 9 = 0 | "
                + "wish 0 14 2 -1 = 350 | out 0 -4000 = 0 | wish 0 14 2 -1 = 350");
    }

    /** What the trials begin with: BALANCED with what was at first, WAKE and WISHES with what is now. */
    private static void trialsBeginWith() {
        // 201 opens only far below 2000: at first it is shut and stays so, now it is open
        S.says("BALANCED: from the beginning (TAPS shut)", "house \"room 10 200;window 0 50;radiator 0 0 10;snap 0 201;\" = 1 | "
                + "turning 0 2001 = -1",
                "open 0 true = false | go 1 = 0 | radiator 0 5 = 16 | open 0 false = true | turning 0 2001 = -1 | turning 0 2000 = 0");
        S.says("WAKE: from now on (as all is ..): windows, TAPS, the MINUTE",
                "house \"room 10 200;window 0 99;radiator 0 0 10;\" = 1 | wake 0 0 2001 = 10 | open 0 true = false | wake 0 0 2001 = -1",
                "new | house \"room 10 200;radiator 0 0 10;slow 0 400;\" = 1 | go 5 = * | mark = 1 | go 10 = * | room 0 1 = @ten | "
                + "back = 0",
                "wake 0 0 @ten = 10 | wake 0 0 @ten+1 = 20",
                "new | house \"room 1 0;radiator 0 0 1;pump 1;sun 0 1 0 1;\" = 1 | go 50 = 0 | wake 0 0 60 = 10 | wake 0 0 61 = -1",
                "go 10 = 0 | wake 0 0 60 = 0 | wake 0 0 61 = -1");
        S.says("A WISH: from now on: windows, SCREWS, OUT",
                "house \"room 10 200;radiator 0 0 10;draught 0 165;\" = 1 | wish 0 8 2 -1 = 0 | open 0 true = false | "
                + "wish 0 8 2 -1 = 400 | "
                + "wish 0 7 2 -1 = 0",
                "new | house \"room 10 200;room 10 200;radiator 0 0 10;radiator 1 1 10;snap 0 190;\" = 2 | wish 0 13 2 0 = 20 | "
                + "screw 0 8 = 16 | wish 0 13 2 0 = 13",
                "new | house \"room 10 200;outer 0 10;radiator 0 0 10;snap 0 190;\" = 1 | wish 0 11 2 -1 = 402 | out 0 2000 = 0 | "
                + "wish 0 11 2 -1 = 0");
        S.says("A WISH: from now on: TEMPERATURES, TAPS", "house \"room 10 200;sun 0 100 0 1;radiator 0 0 10;snap 0 190;\" = 1 | "
                + "go 10 = 0 | "
                + "room 0 1 = 2100 | wish 0 23 2 -1 = 0 | wish 0 24 2 -1 = 389",
                // it is open, and stays so without the WISH too
                "new | house \"room 99 200;radiator 0 0 2;snap 0 203;\" = 1 | go 1 = 0 | radiator 0 5 = 16 | night 0 0 2 = 0 | "
                + "wish 0 2 2 -1 = 0 | go 1 = 80");
    }

    private static void balancedArguments() {
        String outs = "balanced 0 -4001 0 = IAE | balanced 0 4001 0 = IAE | balanced 0 -4000 0 = 16 | balanced 0 4000 0 = 16 | "
                + "balanced 0 0 -1 = IAE | balanced 0 0 10000 = IAE | balanced 0 0 0 = 16 | balanced 0 0 9999 = -1";
        S.says("balanced: OUT (-4,000 to 4,000) and a TEMPERATURE (0 to 9,999)",
                RISING + outs + " | balanced 0 " + MOST + " 0 = IAE | balanced 0 " + LEAST + " 0 = IAE | balanced 0 0 " + MOST
                + " = IAE | balanced 0 0 " + LEAST + " = IAE",
                "balanced 1 0 0 = NSEE | balanced -1 0 0 = NSEE | balanced " + MOST + " 0 0 = NSEE | balanced " + LEAST + " 0 0 = NSEE",
                "new | house \"room 1 400;radiator 0 0 1;sun 0 999 0 24;\" = 1 | balanced 0 0 9999 = 16 | turning 0 9999 = 0");
        S.says("turning: likewise", RISING + "turning -4001 0 = IAE | turning 4001 0 = IAE | turning -4000 0 = 0 | turning 4000 0 = 0 | "
                + "turning 0 -1 = IAE | turning 0 10000 = IAE | turning 0 0 = 0 | turning 0 9999 = -1",
                "turning " + MOST + " 0 = IAE | turning " + LEAST + " 0 = IAE | turning 0 " + MOST + " = IAE | turning 0 " + LEAST
                + " = IAE");
    }

    private static void wakeMinutes() {
        S.says("WAKE: the least number of MINUTES (0 to 240, by tens)",
                RISING + "wake 0 0 0 = 0 | wake 0 0 1 = 10 | wake 0 0 9 = 10 | wake 0 0 10 = 10 | wake 0 0 11 = 20 | wake 0 0 20 = 20 | "
                + "wake 0 0 21 = 30 | wake 0 0 230 = 230 | wake 0 0 231 = 240",
                "wake 0 0 239 = 240 | wake 0 0 240 = 240 | wake 0 0 241 = -1 | wake 0 0 9999 = -1 | clock 0 = 0 | room 0 1 = 0");
        S.says("WAKE: from now on (as all is ..)", RISING + "go 5 = 0 | wake 0 0 5 = 0 | wake 0 0 6 = 10 | wake 0 0 15 = 10 | "
                + "wake 0 0 16 = 20 | wake 0 0 245 = 240 | wake 0 0 246 = -1 | clock 0 = 5",
                // the least, though it is lost again later: it has the sun for the latest MINUTES of HOUR 0 alone
                "new | house \"room 1 0;radiator 0 0 1;pump 1;sun 0 1 0 1;outer 0 50;\" = 1 | go 40 = 0 | room 0 1 = 2 | wake 0 0 2 = 0 | "
                + "wake 0 0 3 = -1",
                "new | house \"room 10 200;radiator 0 0 10;snap 0 100;\" = 1 | wake 0 0 2000 = 0 | wake 0 0 2001 = -1 | new | "
                + "house \"room 10 200;radiator 0 0 10;\" = 1 | air 0 true = false | wake 0 0 2001 = -1 | air 0 false = true | "
                + "wake 0 0 2001 = 10");
        S.says("WAKE: but without NIGHT and HOLIDAYS", "new | house \"room 10 200;radiator 0 0 10;snap 0 250;\" = 1 | "
                + "wake 0 0 2200 = 10 | night 0 0 200 = 0 | wake 0 0 2200 = 10 | holiday 0 99999 200 = 1 | wake 0 0 2200 = 10",
                "night 0 0 0 = 200 | go 10 = 0 | room 0 1 = 2000 | wake 0 0 2200 = 10 | count 7 = 1",
                // not a tenth is taken off or put on: 203 opens from 2000, 202 does not
                "new | house \"room 10 200;radiator 0 0 10;snap 0 203;\" = 1 | night 0 0 1 = 0 | wake 0 0 2001 = 10 | new | "
                + "house \"room 10 200;radiator 0 0 10;snap 0 202;\" = 1 | night 0 0 1 = 0 | wake 0 0 2001 = -1");
        S.says("WAKE: all ROOMS that have RADIATORS", "new | house \"room 1 0;room 1 0;radiator 0 0 1;pump 1;sun 0 1 0 24;\" = 2 | "
                + "wake 0 0 10 = 10 | new | house \"room 1 0;room 1 0;radiator 0 0 1;radiator 1 0 1;pump 1;sun 0 1 0 24;\" = 2 | "
                + "wake 0 0 1 = -1 | wake 0 0 0 = 0",
                "new | house \"room 1 0;\" = 1 | wake 0 0 9999 = 0");
    }

    private static void wakeOuts() {
        // each MINUTE it gains 1 of 100 parts of what OUT has above it: 40 at first with 4,000, 10 with 1,000
        String house = "new | house \"room 1 0;outer 0 1;radiator 0 0 1;pump 1;\" = 1\n";
        S.says("wake: the greater one for two OUTS; NONE: not in 240 MINUTES for one of them",
                house + "wake 4000 4000 300 = 10 | wake 1000 1000 300 = 40 | wake 4000 1000 300 = 40 | wake 1000 4000 300 = 40",
                house + "wake 4000 0 1 = -1 | wake 0 4000 1 = -1 | wake 0 0 1 = -1 | wake 0 4000 0 = 0 | out 0 4000 = 0 | "
                + "wake 0 0 1 = -1 | wake 4000 4000 1 = 10");
        S.says("wake: IllegalArgumentException: OUTS (-4,000 to 4,000), a TEMPERATURE (0 to 9,999)",
                RISING + "wake -4000 4000 0 = 0 | wake 4000 -4000 0 = 0 | wake -4001 0 0 = IAE | wake 4001 0 0 = IAE | "
                + "wake 0 -4001 0 = IAE | wake 0 4001 0 = IAE",
                "wake 0 0 -1 = IAE | wake 0 0 10000 = IAE | wake " + MOST + " 0 0 = IAE | wake 0 " + LEAST + " 0 = IAE | wake 0 0 "
                + LEAST + " = IAE | wake 0 0 " + MOST + " = IAE");
    }

    private static void wishes() {
        // 2000 is below GOAL less 20 with 13 tenths more than 190
        String house = "new | house \"room 10 200;room 10 0;radiator 0 0 10;snap 0 190;radiator 0 0 1;\" = 2 | screw 1 1 = 16 | "
                + "air 0 false = false | water 0 600 = 0\n";
        String alone = "new | house \"room 10 200;radiator 0 0 10;snap 0 190;radiator 0 1 1;\" = 1 | air 1 true = false\n";
        S.says("A WISH: its SET is so many tenths more", alone + "wish 0 12 9 -1 = 0 | wish 0 13 2 -1 = 400 | wish 0 13 2 0 = 40 | "
                + "wish 0 200 2 -1 = 400 | radiator 0 4 = 190 | clock 0 = 0 | go 2 = 0",
                // more than 400 tenths may come of it
                "new | house \"room 10 400;radiator 0 0 10;snap 0 400;\" = 1 | wish 0 2 2 -1 = 0 | wish 0 3 2 -1 = 200 | "
                + "wish 0 200 2 0 = 20");
        S.says("A WISH: by how much it is more than without it", "new | house \"room 10 200;radiator 0 0 10;snap 0 202;\" = 1 | "
                + "wish 0 1 2 -1 = 400 | wish 0 1 2 0 = 40 | wish 0 0 2 -1 = 0",
                "new | house \"room 10 200;radiator 0 0 10;snap 0 203;\" = 1 | wish 0 0 2 -1 = 0 | wish 0 1 2 -1 = 0 | "
                + "wish 0 200 2 -1 = 0 | wish 0 200 2 0 = 0");
        S.says("wish: so many tenths (0 to 200) for so many MINUTES (0 to 240)",
                alone + "wish 0 0 240 -1 = 0 | wish 0 200 0 -1 = 0 | wish 0 200 0 0 = 0 | wish 0 200 1 -1 = 0 | wish 0 200 2 -1 = 400 | "
                + "wish 0 1 240 0 = 0",
                "wish 0 -1 5 0 = IAE | wish 0 201 5 0 = IAE | wish 0 5 -1 0 = IAE | wish 0 5 241 0 = IAE | wish 0 5 240 0 = 0 | wish 0 "
                + MOST + " 5 0 = IAE | wish 0 5 " + LEAST + " 0 = IAE");
        S.says("wish: of a ROOM; with NONE as ROOM: of all HEATS", alone + "wish 0 5 5 -1 = 0 | wish 0 5 5 0 = 0 | wish 0 5 5 1 = IOOBE | "
                + "wish 0 5 5 -2 = IOOBE | wish 0 5 5 " + MOST + " = IOOBE | wish 0 5 5 " + LEAST + " = IOOBE",
                house + "wish 0 200 2 1 = 0 | wish 0 200 2 2 = IOOBE");
        S.says("wish: IllegalArgumentException: the RADIATOR has no TAP",
                alone + "wish 1 5 5 0 = IAE | wish 1 5 5 -1 = IAE | wish 1 0 0 0 = IAE | wish 2 5 5 0 = NSEE | wish -1 5 5 0 = NSEE | "
                + "wish " + MOST + " 5 5 0 = NSEE | wish " + LEAST + " 5 5 0 = NSEE");
        S.says("what .. are more by it (less is below 0)", "new | "
                + "house \"room 10 200;room 10 200;radiator 0 0 10;radiator 1 0 10;snap 0 190;\" = 2 | wish 0 13 2 1 = -20 | "
                + "wish 0 13 2 0 = 20 | wish 0 12 2 1 = 0",
                // from now on: it is open already
                "night 0 0 20 = 0 | wish 0 32 2 1 = 0 | wish 0 33 2 1 = -20 | night 0 0 0 = 20 | go 60 = * | wish 0 0 60 -1 = 0");
    }
}
