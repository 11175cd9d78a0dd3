/** The boundaries that the document names for the TAPE and the HOUSE's text: Terms 1, promises 2, 3, 5 and 6. */
public final class HouseTextBoundariesTest {
    private static final Sentences S = new Sentences();
    private static final String TWO = "room 1 1;room 1 1;";
    private static final String RADIATOR = "room 1 1;radiator 0 0 1;";

    public static void main(String[] args) {
        tape();
        firstBytes();
        upTo500Bytes();
        numbersOfRooms();
        numbersOfRadiators();
        hoursOfSun();
        toldAhead();
        digitsAndLetters();
        everyByte();
        blanks();
        lastClauseCounts();
        without();
        textEndsTooEarly();
        tooMany();
        noRoom();
        firstFromTheLeft();
        ofOneTheLeast();
        placeOfTheFault();
        told();
        S.end();
    }

    private static String feeds(int from, int to) {
        StringBuilder rows = new StringBuilder();
        for (int i = from; i <= to; i++) {
            // "room 1 1" and twelve blanks the first time, then ";" and blanks
            rows.append(i == 1 ? "feed 1919905645 540090417 538976288 538976288 538976288 = "
                    : "feed 991961120 538976288 538976288 538976288 538976288 = ").append(20 * i).append('\n');
        }
        return rows.toString();
    }

    private static void tape() {
        S.says("feed: how many there are; NONE, doing nothing, if there would be more than 500",
                "count 2 = 0", feeds(1, 24), "count 2 = 480 | feed 538976288 538976288 538976288 538976288 538976288 = 500",
                "feed 1061109567 1061109567 1061109567 1061109567 1061109567 = -1 | count 2 = 500",
                "feed 0 0 0 0 0 = -1 | feed -1 -1 -1 -1 -1 = -1 | count 2 = 500 | house 501 = IAE",
                // "room 1 1;" and then a second ";" at place 40
                "house 500 = -9 | fault = 40 | count 2 = 0 | feed 0 0 0 0 0 = 20",
                "new", feeds(1, 2), "feed 538976288 538976288 538976288 538976288 538976288 = 60 | house 60 = 1 | room 0 1 = 10");
        for (int place = 0; place < 20; place++) {
            int[] five = {0x20202020, 0x20202020, 0x20202020, 0x20202020, 0x20202020};
            int shift = 24 - 8 * (place % 4);
            five[place / 4] = five[place / 4] & ~(255 << shift) | 0xBF << shift;
            BoilerTaps x = new BoilerTaps();
            x.feed(0x20202020, 0x20202020, 0x20202020, 0x20202020, 0x20202020);
            x.feed(five[0], five[1], five[2], five[3], five[4]);
            String sentence = "feed: twenty bytes come on the TAPE, of each number the highest first";
            S.check(sentence, "house(40)", x.house(40), -9);
            S.check(sentence, "fault()", x.fault(), 20 + place);
        }
    }

    private static void firstBytes() {
        String good = "feed 1919905645 540090417 997355375 1830826272 825971968 = 20\n"; // "room 1 1;room 1 1; " and a 0
        S.says("house: the first n bytes of the TAPE (empty then) are the HOUSE",
                good + "house 9 = 1 | count 2 = 0 | house 1 = IAE",
                good + "house 10 = -9 | fault = 9 | count 2 = 0", good + "house 8 = -9 | fault = 8 | count 2 = 0",
                good + "house 18 = 2 | told 0 = 2", good + "house 19 = -9 | fault = 18 | told 0 = 2",
                good + "house 0 = -6 | fault = 0 | count 2 = 0 | told 0 = 2", good + "house 20 = -9 | fault = 18");
        S.says("house: IllegalArgumentException: n is not 0 to the TAPE's bytes (it stays)",
                "house -1 = IAE | house 1 = IAE | house 0 = -6 | fault = 0",
                good + "house 21 = IAE | house -1 = IAE | house 500 = IAE | house -2147483648 = IAE | house 2147483647 = IAE",
                "count 2 = 20 | fault = 0 | house 20 = -9 | fault = 18 | house 20 = IAE",
                good + "count 2 = 20 | house 21 = IAE | house 18 = 2 | house 18 = IAE | told 0 = 2");
        S.says("house: or the FAULT less 10 (the HOUSE stays)",
                "house \"room 7 70;\" = 1 | house \"room 1 1;room 1 1;x\" = -9 | told 0 = 1 | room 0 0 = 7",
                "house \"room 1 1;room 1 401;\" = -8 | told 0 = 1 | room 0 0 = 7 | room 0 1 = 700",
                "house \"" + "room 1 1;".repeat(9) + "\" = -7 | told 0 = 1 | told 5 = 1",
                "house \"pump 7;\" = -6 | told 2 = 100 | pump 3 = 100 | house \"\" = -6 | told 0 = 1");
    }

    private static void upTo500Bytes() {
        String room = "room 1 1;";
        S.says("The HOUSE is a text of up to 500 bytes",
                "house \"" + room + " ".repeat(491) + "\" = 1 | fault = -1",
                "new | house \"" + room + " ".repeat(490) + "\" = 1 | fault = -1",
                "new | house \"room 1 " + "0".repeat(490) + "17;\" = 1 | room 0 1 = 170",
                "new | house \"room 1 " + "0".repeat(491) + "17\" = -9 | fault = 500",
                "new | house \"room 1 " + "0".repeat(490) + "401\" = -8 | fault = 7",
                "new | house \"" + room + " ".repeat(490) + "x\" = -9 | fault = 499",
                "new | house \"" + " ".repeat(491) + room + "\" = 1",
                "new | house \"" + " ".repeat(492) + "room 1 1\" = -9 | fault = 500",
                "new | house \"" + " ".repeat(500) + "\" = -6 | fault = 500",
                "new | house \"" + " ".repeat(499) + "\" = -6 | fault = 499",
                "new | house \"" + " ".repeat(499) + "r\" = -9 | fault = 499");
    }

    private static void house(String sentence, int rooms, Sentences.Place place) {
        S.number(sentence, "", "house", rooms, place);
    }

    private static void numbersOfRooms() {
        house("\"room\" N N (MASS, 1 to 99", 1, new Sentences.Place("room ", " 100;", 1, 99, "room 0 0 = N"));
        house("tenths of a degree that it has at first, 0 to 400", 1,
                new Sentences.Place("room 5 ", ";", 0, 400, "room 0 1 = N0"));
        house("\"wall\" R R N (0 to 99)", 2,
                new Sentences.Place(TWO + "wall 0 1 ", ";", 0, 99, "wall 0 1 = N | wall 1 0 = N"));
        house("\"outer\" R N (0 to 99)", 1, new Sentences.Place("room 1 1;outer 0 ", ";", 0, 99, "room 0 2 = N"));
        house("\"window\" R N (0 to 99)", 1, new Sentences.Place("room 1 1;window 0 ", ";", 0, 99, "room 0 3 = N"));
        house("\"sun\" R N H H (0 to 999 a MINUTE", 1,
                new Sentences.Place("room 99 1;sun 0 ", " 0 24;", 0, 999, "room 0 9 = 0 | go 1 = 0 | room 0 9 = N"));
        house("\"pump\" N (1 to 999)", 1, new Sentences.Place("room 1 1;pump ", ";", 1, 999, "told 2 = N | pump 5 = N"));
        house("\"boiler\" N N (POWER, 1 to 99,999", 1,
                new Sentences.Place("room 1 1;boiler ", " 600;", 1, 99_999, "told 3 = N | told 4 = 600"));
        house("tenths of its WATER, 200 to 900)", 1,
                new Sentences.Place("room 1 1;boiler 5 ", ";", 200, 900, "told 4 = N | told 3 = 5"));
    }

    private static void numbersOfRadiators() {
        house("\"radiator\" R P N (in a ROOM", 2,
                new Sentences.Place(TWO + "radiator ", " 3 9;", 0, 1, "radiator 0 0 = N | told 1 = 1"));
        house("on a PIPE 0 to 3", 1, new Sentences.Place("room 1 1;radiator 0 ", " 9;", 0, 3, "radiator 0 1 = N"));
        house("SIZE 1 to 99: RADIATORS 0, 1, ..)", 1,
                new Sentences.Place("room 1 1;radiator 0 0 ", ";", 1, 99, "radiator 0 2 = N"));
        String[] kinds = {"snap", "slow", "draught"};
        for (int kind = 0; kind < kinds.length; kind++) {
            house("\"" + kinds[kind] + "\" K N (SET to tenths, 0 to 400)", 1, new Sentences.Place(RADIATOR + kinds[kind] + " 0 ", ";",
                    0, 400, "radiator 0 4 = N | radiator 0 3 = " + (kind + 1)));
            house("\"" + kinds[kind] + "\" K (the TAP of a RADIATOR)", 1,
                new Sentences.Place(RADIATOR + "radiator 0 0 1;" + kinds[kind] + " ",
                    " 77;", 0, 1, "radiator N 4 = 77 | radiator N 3 = " + (kind + 1) + " | count 5 = 1"));
        }
        String rooms = "room 1 1;".repeat(8);
        house("ROOMS 0, 1, ..: \"outer\" R", 8, new Sentences.Place(rooms + "outer ", " 7;", 0, 7, "room N 2 = 7"));
        house("ROOMS 0, 1, ..: \"window\" R", 8, new Sentences.Place(rooms + "window ", " 7;", 0, 7, "room N 3 = 7"));
        house("ROOMS 0, 1, ..: \"sun\" R", 8,
                new Sentences.Place(rooms + "sun ", " 7 0 1;", 0, 7, "go 1 = 0 | room N 9 = 7"));
        house("ROOMS 0, 1, ..: \"radiator\" R", 8,
                new Sentences.Place(rooms + "radiator ", " 0 1;", 0, 7, "radiator 0 0 = N"));
        house("ROOMS 0, 1, ..: the first R of a wall", 8,
                new Sentences.Place(rooms + "wall ", " 4 7;", 0, 7, "wall N 4 = 7 | wall 4 N = 7"));
        house("ROOMS 0, 1, ..: the second R of a wall", 8,
                new Sentences.Place(rooms + "wall 4 ", " 7;", 0, 7, "wall N 4 = 7 | wall 4 N = 7"));
        house("RADIATORS 0, 1, ..: K", 1,
                new Sentences.Place("room 1 1;" + "radiator 0 0 1;".repeat(8) + "slow ", " 7;", 0, 7, "radiator N 4 = 7"));
    }

    private static void hoursOfSun() {
        String sun = "new | house \"room 9 1;sun 0 7 ";
        house("sun: up to another one (0 to 24)", 1, new Sentences.Place("room 9 1;sun 0 7 0 ", ";", 1, 24, "room 0 9 = 0"));
        S.says("sun: from an HOUR up to another one, which is greater: 0 to 24",
                sun + "8 8;\" = -8 | fault = 19", sun + "8 7;\" = -8 | fault = 19", sun + "8 9;\" = 1 | fault = -1",
                sun + "0 0;\" = -8 | fault = 19", sun + "0 1;\" = 1", sun + "23 24;\" = 1", sun + "23 23;\" = -8 | fault = 20",
                sun + "24 24;\" = -8 | fault = 20", sun + "24 25;\" = -8 | fault = 20", sun + "24 23;\" = -8 | fault = 20",
                sun + "25 26;\" = -8 | fault = 17", sun + "4294967296 24;\" = -8 | fault = 17", sun + "023 024;\" = 1",
                sun + "25 x\" = -8 | fault = 17", sun + "22 24;\" = 1",
                sun + "24 x;\" = -9 | fault = 20", sun + "24\" = -9 | fault = 19", sun + "23 25;\" = -8 | fault = 20");
    }

    private static void toldAhead() {
        String room = "room 1 1;";
        S.says("2 a number that is none such (a ROOM .. that was not told ahead",
                "house \"outer 0 5;room 1 1;\" = -8 | fault = 6 | house \"window 0 5;room 1 1;\" = -8 | fault = 7",
                "house \"sun 0 5 0 1;room 1 1;\" = -8 | fault = 4 | house \"radiator 0 0 5;room 1 1;\" = -8 | fault = 9",
                "house \"wall 0 1 5;room 1 1;room 1 1;\" = -8 | fault = 5",
                "house \"room 1 1;wall 0 1 5;room 1 1;\" = -8 | fault = 16 | house \"room 1 1;wall 1 0 5;room 1 1;\" = -8 | fault = 14",
                "house \"room 1 1;outer 1 5;room 1 1;\" = -8 | fault = 15 | house \"room 1 1;window 1 5;room 1 1;\" = -8 | fault = 16",
                "house \"room 1 1;sun 1 5 0 1;room 1 1;\" = -8 | fault = 13 | house \"room 1 1;radiator 1 0 5;room 1 1;\" = -8 | "
                + "fault = 18",
                "house \"room 1 1;room 1 1;wall 0 1 5;outer 1 5;window 1 5;sun 1 5 0 1;radiator 1 0 5;\" = 2",
                "house \"" + room.repeat(7) + "outer 7 1;\" = -8 | fault = 69 | house \"" + room.repeat(8) + "outer 8 1;\" = -8 | "
                + "fault = 78");
        S.says("2 a number that is none such (a .. RADIATOR that was not told ahead",
                "house \"snap 0 5;\" = -8 | fault = 5 | house \"slow 0 5;\" = -8 | fault = 5 | house \"draught 0 5;\" = -8 | fault = 8",
                "house \"room 1 1;snap 0 5;radiator 0 0 1;\" = -8 | fault = 14",
                "house \"" + RADIATOR + "snap 1 5;radiator 0 0 1;\" = -8 | fault = 29",
                "house \"" + RADIATOR + "radiator 0 0 1;snap 1 5;slow 0 5;\" = 1",
                "house \"" + RADIATOR + "radiator 0 0 1;draught 2 5;\" = -8 | fault = 47");
        S.says("2 .. (the second R of a wall that is the first)",
                "house \"room 1 1;wall 0 0 5;\" = -8 | fault = 16 | house \"" + TWO + "wall 1 1 5;\" = -8 | fault = 25",
                "house \"" + TWO + "wall 1 01 5;\" = -8 | fault = 25 | house \"" + TWO + "wall 0 1 5;wall 1 0 6;\" = 2 | wall 0 1 = 6",
                "house \"" + TWO + "wall 2 2 5;\" = -8 | fault = 23 | house \"" + TWO + "wall 1 1 100;\" = -8 | fault = 25");
    }

    private static void digitsAndLetters() {
        S.says("N, R, K, P, H: digits, as many as stand there",
                "house \"room 11;\" = -9 | fault = 7 | house \"room 12 34;\" = 1 | room 0 0 = 12 | room 0 1 = 340",
                "house \"room 1 0 1;\" = -9 | fault = 9 | house \"room 00001 0000400;\" = 1 | room 0 0 = 1 | room 0 1 = 4000",
                "house \"room12 34;\" = 1 | room 0 0 = 12 | house \"room 1 1;radiator 00 3;\" = -9 | fault = 22",
                "house \"room 1,1;\" = -9 | fault = 6 | house \"room 1.5 1;\" = -9 | fault = 6 | house \"room 1 1:\" = -9 | fault = 8");
        S.says("WORDS: small letters, as many as stand there",
                "house \"rooms 1 1;\" = -9 | fault = 0 | house \"roo 1 1;\" = -9 | fault = 0 | house \"r\" = -9 | fault = 0",
                "house \"Room 1 1;\" = -9 | fault = 0 | house \"rooM 1 1;\" = -9 | fault = 0 | house \"ro om 1 1;\" = -9 | fault = 0",
                "house \"roomroom 1 1;\" = -9 | fault = 0 | house \"room_1 1;\" = -9 | fault = 4 | house \"roomS 1 1;\" = -9 | fault = 4",
                "house \"room 1 1;pump5;boiler5 600;\" = 1 | told 2 = 5 | house \"room 1 1;pumpx 5;\" = -9 | fault = 9",
                "house \"oom 1 1;\" = -9 | fault = 0 | house \"room 1 1;wal 0 1 5;\" = -9 | fault = 9 | house \"meter 1 1;\" = -9 | "
                + "fault = 0");
        String clauses = "radiator 0 0 1;snap 0 1;slow 0 1;draught 0 1;wall 0 1 1;outer 0 1;window 0 1;sun 0 1 0 1;pump 1;boiler 1 200;";
        S.says("CLAUSE: each of its words", "house \"" + TWO + clauses + "\" = 2 | told 5 = 12",
                "house \"" + TWO + clauses.replace(" ", "  ").replace(";", " ; ") + "\" = 2 | told 5 = 12");
    }

    private static boolean isDigit(int b) {
        return b >= '0' && b <= '9';
    }

    private static void read(String sentence, String ahead, int b, String behind, int due, int place) {
        BoilerTaps x = new BoilerTaps();
        String text = ahead + (char) b + behind;
        Script.feed(x, text);
        S.check(sentence, "house(\"" + ahead + "\" byte " + b + " \"" + behind + "\")", x.house(text.length()), due);
        S.check(sentence, "fault() behind \"" + ahead + "\" byte " + b + " \"" + behind + "\"", x.fault(), place);
    }

    /** Bytes next to digits, small letters and the blank are none of these; nor are those above 127. */
    private static void everyByte() {
        String sentence = "1 what can't stand there";
        for (int b = 0; b < 256; b++) {
            boolean isLetter = b >= 'a' && b <= 'z';
            boolean isBlank = b == 32;
            boolean good = isBlank || isDigit(b);
            read(sentence, "", b, "room 1 1;", isBlank ? 1 : -9, isBlank ? -1 : 0);
            read(sentence, "room", b, "1 1;", good ? 1 : -9, good ? -1 : isLetter ? 0 : 4);
            read(sentence, "room 1", b, "1;", isBlank ? 1 : isDigit(b) ? -8 : -9, isBlank ? -1 : isDigit(b) ? 5 : 6);
            read(sentence, "room 1 1", b, "", b == ';' ? 1 : -9, b == ';' ? -1 : good ? 9 : 8);
            read(sentence, "room 1 1;", b, "", isBlank ? 1 : -9, isBlank ? -1 : 9);
            read(sentence, "room 1 1;pump", b, "5;", good ? 1 : -9, good ? -1 : isLetter ? 9 : 13);
        }
    }

    private static void blanks() {
        S.says("blanks (32) may stand ahead of all these, and at the end",
                "house \"   room   7   100   ;   room 8 5;   \" = 2 | room 0 0 = 7 | room 1 1 = 50",
                "house \"room7 100;room8 5;\" = 2 | room 1 0 = 8 | house \"room 7 1;\t\" = -9 | fault = 9",
                "house \"\troom 7 1;\" = -9 | fault = 0 | house \"room\t7 1;\" = -9 | fault = 4 | house \"room 7\t1;\" = -9 | fault = 6");
    }

    private static void lastClauseCounts() {
        S.says("Of one thing (wall of two ROOMS, either way) the last CLAUSE counts",
                "house \"" + TWO + "room 1 1;wall 0 1 5;wall 1 0 9;wall 2 0 3;\" = 3 | wall 0 1 = 9 | wall 1 0 = 9 | wall 0 2 = 3",
                "house \"" + TWO + "wall 0 1 5;wall 1 0 0;\" = 2 | wall 0 1 = 0 | wall 1 0 = 0",
                "house \"" + TWO + "wall 1 0 5;wall 0 1 7;wall 1 0 6;\" = 2 | wall 0 1 = 6 | wall 1 0 = 6");
        S.says("Of one thing (outer, window, sun of a ROOM) the last CLAUSE counts",
                "house \"" + TWO + "outer 0 9;outer 1 8;outer 0 0;\" = 2 | room 0 2 = 0 | room 1 2 = 8",
                "house \"" + TWO + "window 0 9;window 1 8;window 0 7;\" = 2 | room 0 3 = 7 | room 1 3 = 8",
                "house \"room 99 1;room 99 1;sun 0 9 1 24;sun 1 8 0 24;sun 0 7 0 1;\" = 2 | go 1 = 0 | room 0 9 = 7 | room 1 9 = 8",
                "go 60 = 0 | room 0 9 = 0 | room 1 9 = 8 | house \"room 9 1;sun 0 9 0 24;sun 0 0 5 6;\" = 1 | go 1 = 0 | room 0 9 = 0");
        S.says("Of one thing (TAP of a RADIATOR) the last CLAUSE counts",
                "house \"" + RADIATOR + "radiator 0 0 1;snap 0 9;draught 1 8;slow 0 7;\" = 1 | radiator 0 3 = 2 | radiator 0 4 = 7",
                "radiator 1 3 = 3 | radiator 1 4 = 8 | count 5 = 2 | house \"" + RADIATOR + "slow 0 9;snap 0 0;\" = 1 | "
                + "radiator 0 3 = 1 | radiator 0 4 = 0");
        S.says("Of one thing (pump; boiler) the last CLAUSE counts",
                "house \"pump 5;boiler 5 500;room 1 1;pump 7;boiler 6 400;\" = 1 | told 2 = 7 | told 3 = 6 | told 4 = 400 | told 5 = 5");
    }

    private static void without() {
        S.says("Without: no wall, outer, window, sun; no TAP; pump 100 (it can be told anew); boiler 9,999, 600 tenths",
                "house \"" + TWO + "radiator 0 0 1;\" = 2 | wall 0 1 = 0 | room 0 2 = 0 | room 0 3 = 0 | radiator 0 3 = 0 | "
                + "radiator 0 4 = 0",
                "radiator 0 5 = 16 | told 2 = 100 | told 3 = 9999 | told 4 = 600 | pump 101 = 100 | told 2 = 100 | pump 9 = 101",
                "open 0 true = false | open 1 true = false | out 0 -4000 = 0 | go 1 = * | room 0 9 = 0 | room 0 5 = 0 | room 0 6 = 0 | "
                + "room 0 7 = 0");
    }

    /** Each text is cut at every place: a word that is cut is none such; all else ends too early. */
    private static void textEndsTooEarly() {
        String sentence = "1 what can't stand there (at the length, if the text ends too early)";
        String ahead = TWO + "radiator 0 0 1;";
        for (String clause : new String[] {"room 1 1;", "wall 0 1 1;", "outer 0 1;", "window 0 1;", "sun 0 1 0 1;",
            "radiator 0 0 1;", "snap 0 1;", "slow 0 1;", "draught 0 1;", "pump 1;", "boiler 1 500;"}) {
            int word = clause.indexOf(' ');
            for (int cut = 1; cut < clause.length(); cut++) {
                String text = ahead + clause.substring(0, cut);
                boolean isNumberTooSmall = clause.startsWith("boiler") && (cut == 10 || cut == 11);
                int place = cut < word ? ahead.length() : isNumberTooSmall ? ahead.length() + 9 : text.length();
                BoilerTaps x = new BoilerTaps();
                Script.feed(x, text);
                S.check(sentence, "house(\"" + text + "\")", x.house(text.length()), isNumberTooSmall ? -8 : -9);
                S.check(sentence, "fault() behind \"" + text + "\"", x.fault(), place);
                text = text + "   ";
                Script.feed(x, text);
                S.check(sentence, "house(\"" + text + "\")", x.house(text.length()), isNumberTooSmall ? -8 : -9);
                S.check(sentence, "fault() behind \"" + text + "\"", x.fault(), place == text.length() - 3 ? text.length() : place);
            }
        }
    }

    private static void tooMany() {
        String full = "room 1 1;" + "pump 1;".repeat(39);
        S.says("3 a 41st CLAUSE (at the word)",
                "house \"room 1 1;" + "pump 1;".repeat(38) + "\" = 1 | told 5 = 39",
                "house \"" + full + "\" = 1 | told 5 = 40 | fault = -1 | house \"" + full + "   \" = 1",
                "house \"" + full + "pump 1;\" = -7 | fault = 282 | told 5 = 40 | house \"" + full + "   pump 1;\" = -7 | fault = 285",
                "house \"" + full + "pump\" = -7 | fault = 282 | house \"" + full + "pump 0;\" = -7 | fault = 282",
                "house \"" + full + "room 1 1;\" = -7 | fault = 282 | house \"" + full + "outer 5 1;\" = -7 | fault = 282",
                "house \"" + full + "boiler 1 200;pump 1;\" = -7 | fault = 282",
                "house \"" + "pump 1;".repeat(41) + "\" = -7 | fault = 280 | house \"" + "pump 1;".repeat(40) + "\" = -6 | fault = 280");
        S.says("3 a 9th ROOM (at the word)",
                "house \"" + "room 1 1;".repeat(7) + "\" = 7 | house \"" + "room 1 1;".repeat(8) + "\" = 8 | told 0 = 8 | room 7 1 = 10 | "
                + "room 8 1 = IOOBE",
                "house \"" + "room 1 1;".repeat(9) + "\" = -7 | fault = 72 | told 0 = 8 | house \"" + "room 1 1;".repeat(8)
                + "  room\" = -7 | fault = 74",
                "house \"" + "room 1 1;".repeat(8) + "room 0 0\" = -7 | fault = 72 | house \"" + "room 1 1;".repeat(8)
                + "pump 5;room 1 1;\" = -7 | fault = 79",
                "house \"" + "room 1 1;".repeat(8) + "rooms\" = -9 | fault = 72");
        S.says("3 a 9th .. RADIATOR (at the word)",
                "house \"room 1 1;" + "radiator 0 0 1;".repeat(7) + "\" = 1 | told 1 = 7",
                "house \"room 1 1;" + "radiator 0 0 1;".repeat(8) + "\" = 1 | told 1 = 8 | radiator 7 2 = 1 | radiator 8 2 = NSEE",
                "house \"room 1 1;" + "radiator 0 0 1;".repeat(9) + "\" = -7 | fault = 129 | told 1 = 8",
                "house \"room 1 1;" + "radiator 0 0 1;".repeat(8) + "  radiator\" = -7 | fault = 131",
                "house \"room 1 1;" + "radiator 0 0 1;".repeat(8) + "radiator 9 9 0;\" = -7 | fault = 129",
                "house \"room 1 1;" + "radiator 0 0 1;".repeat(8) + "room 1 1;\" = 2");
    }

    private static void noRoom() {
        S.says("4 at the length: there is no ROOM",
                "house \"\" = -6 | fault = 0 | house \" \" = -6 | fault = 1 | house \"pump 5;\" = -6 | fault = 7 | "
                + "house \"pump 5;  \" = -6 | fault = 9",
                "house \"boiler 1 200;pump 1;\" = -6 | fault = 20 | house \"room 1 1;\" = 1 | fault = -1 | told 0 = 1");
    }

    private static void firstFromTheLeft() {
        S.says("FAULTS, the first from the left, at its first byte",
                "house \"room 0 401;\" = -8 | fault = 5 | house \"room 1 401 x\" = -8 | fault = 7 | house \"room 1 x 0;\" = -9 | fault = 7",
                "house \"room 100\" = -8 | fault = 5 | house \"x room 0 0;\" = -9 | fault = 0 | house \"pump 0;\" = -8 | fault = 5",
                "house \"pump 5\" = -9 | fault = 6 | house \"room 1 1;pump 0;\" = -8 | fault = 14 | "
                + "house \"room 1 1;room 1 1;room 0 0\" = -8 | fault = 23",
                "house \"room 00100 1;\" = -8 | fault = 5 | house \"room 1 1;pump 1;;\" = -9 | fault = 16 | house \";\" = -9 | fault = 0",
                "house \"" + "room 1 1;".repeat(8) + "outer 8 1;room 1 1;\" = -8 | fault = 78",
                "house \"" + "room 1 1;".repeat(8) + "room 0 1;outer 8 1;\" = -7 | fault = 72");
    }

    private static void ofOneTheLeast() {
        String full = "room 1 1;" + "pump 1;".repeat(39);
        S.says("of one the least",
                "house \"pump 1\" = -9 | fault = 6 | house \"pump\" = -9 | fault = 4 | house \"boiler 1\" = -9 | fault = 8",
                "house \"" + full + "tap 1;\" = -9 | fault = 282 | house \"" + full + ";\" = -9 | fault = 282 | house \"" + full
                + "5\" = -9 | fault = 282",
                "house \"" + "pump 1;".repeat(40) + "x\" = -9 | fault = 280 | house \"" + "room 1 1;".repeat(8) + "Room 1 1;\" = -9 | "
                + "fault = 72");
    }

    private static void placeOfTheFault() {
        S.says("fault: the place of the FAULT of the latest house(), words() or claim(); NONE without",
                "fault = -1 | house \"room 1 0401;\" = -8 | fault = 7 | fault = 7 | words \"1+\" = -9 | fault = 2 | "
                + "claim \"got 9 0 0\" = -8 | fault = 4",
                "words \"1\" = 0 | fault = -1 | house \"\" = -6 | fault = 0 | claim \"got 0 0 0\" = 0 | fault = -1",
                "words \"\" = -9 | fault = 0 | house \"room 1 1;\" = 1 | fault = -1 | words \"  x\" = -9 | fault = 2 | go 1 = 0 | "
                + "mark = 1 | back = 0 | fault = 2",
                "feed 0 0 0 0 0 = 20 | fault = 2 | claim \"\" = -9 | fault = 0");
    }

    private static void told() {
        S.says("told: (0, 0, 100, 9,999, 600 without one), 5 CLAUSES; IllegalArgumentException: another what",
                "told 0 = 0 | told 1 = 0 | told 2 = 100 | told 3 = 9999 | told 4 = 600 | told 5 = 0 | told 6 = IAE | told -1 = IAE",
                "told 2147483647 = IAE | told -2147483648 = IAE | house \"room 1 1;pump 5;\" = 1 | told 5 = 2 | told 6 = IAE | "
                + "told -1 = IAE",
                "pump 9 = 5 | told 2 = 5 | house \"pump 1\" = -9 | told 0 = 1 | told 5 = 2");
    }
}
