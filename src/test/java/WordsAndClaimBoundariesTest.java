/** The boundaries that the document names for WORDS, BILLS, the CLAIM and how it is JUDGED: Terms 4 and 5. */
public final class WordsAndClaimBoundariesTest {
    private static final Sentences S = new Sentences();
    private static final String HOUSE = "house \"room 1 1;radiator 0 0 1;\" = 1\n";
    private static final String YES = "got 0 1 1";
    private static final String NO = "got 0 0 0";
    private static final String OPEN = "got 0 3 3";

    public static void main(String[] args) {
        lengths("words", "1");
        lengths("claim", "got 0 0 0");
        numbersOfWords();
        bracketsOfWords();
        faultsOfWords();
        everyByteOfWords();
        values();
        meters();
        parts();
        bills();
        numbersOfClaims();
        openAtOneTime();
        faultsOfClaims();
        everyByteOfClaims();
        sayings();
        hoursThatAreThere();
        joined();
        staysWithFault();
        S.end();
    }

    private static void lengths(String call, String text) {
        String full = text + " ".repeat(200 - text.length());
        S.says(call + ": a text of up to 200 bytes",
                call + " \"" + text + " ".repeat(199 - text.length()) + "\" = 0 | " + call + " \"" + full + "\" = 0 | fault = -1",
                call + " \"" + full + " \" = IAE | count 2 = 220 | house 220 = -9 | " + call + " \"" + " ".repeat(200) + "\" = -9 | "
                + "fault = 200",
                call + " \"" + " ".repeat(200 - text.length()) + text + "\" = 0 | " + call + " \"" + " ".repeat(199) + "?\" = -9 | "
                + "fault = 199");
        S.says(call + ": IllegalArgumentException: n is not 0 to the TAPE's bytes, or above 200 (it stays)",
                call + " -1 = IAE | " + call + " 1 = IAE | fault = -1 | feed 0 0 0 0 0 = 20 | " + call + " 21 = IAE | " + call
                + " -1 = IAE",
                call + " 200 = IAE | " + call + " 2147483647 = IAE | " + call + " -2147483648 = IAE | count 2 = 20 | fault = -1",
                call + " 20 = -9 | fault = 0 | count 2 = 0 | " + call + " 0 = -9 | fault = 0",
                "new", blankFeeds(11), call + " 201 = IAE | " + call + " 220 = IAE | count 2 = 220 | " + call + " 200 = -9 | "
                + "fault = 200 | count 2 = 0",
                blankFeeds(10), call + " 201 = IAE | " + call + " 199 = -9 | fault = 199 | count 2 = 0",
                blankFeeds(11), "house 201 = -6 | fault = 201");
        S.says(call + ": the first n bytes of the TAPE (empty then)",
                "feed 538976288 538976288 538976288 538976288 538976288 = 20 | " + call + " 5 = -9 | fault = 5 | count 2 = 0 | " + call
                + " 5 = IAE");
    }

    private static String blankFeeds(int times) {
        StringBuilder rows = new StringBuilder();
        for (int i = 1; i <= times; i++) {
            rows.append("feed 538976288 538976288 538976288 538976288 538976288 = ").append(20 * i).append('\n');
        }
        return rows.toString();
    }

    private static void numbersOfWords() {
        S.number("U: N (0 to 9,999)", HOUSE, "words", 0, new Sentences.Place("", "", 0, 9_999, "part 0 = N"));
        S.number("U: N (0 to 9,999), behind a sign", HOUSE, "words", 0, new Sentences.Place("0 + ", "", 0, 9_999, "part 0 = N"));
        S.number("U: N (0 to 9,999), in brackets", HOUSE, "words", 0, new Sentences.Place("(", ")", 0, 9_999, "part 0 = N"));
    }

    private static void bracketsOfWords() {
        StringBuilder rows = new StringBuilder(HOUSE);
        for (int deep = 1; deep <= 6; deep++) {
            rows.append("words \"").append("(".repeat(deep)).append(deep).append(")".repeat(deep)).append("\" = 0 | fault = -1 | part 0 = ")
                    .append(deep).append('\n');
        }
        S.says("3 a 7th ( that is open at one time", rows.toString(),
                "words \"(((((((7)))))))\" = -7 | fault = 6 | part 0 = 6 | words \"(((((((\" = -7 | fault = 6 | words \"((((((\" = -9 | "
                + "fault = 6",
                "words \"((((((1))))))+((((((2))))))*((((((3))))))\" = 0 | part 0 = 7",
                "words \"(1)+(2)+(3)+(4)+(5)+(6)+(7)+(8)\" = 0 | part 0 = 36",
                "words \"(((((1)+(1)))))\" = 0 | part 0 = 2 | words \"((((((1)))))+(1))\" = 0 | words \"((((((1)+1)))+1)+1+1)\" = 0 | "
                + "part 0 = 5",
                "words \"((((((1)))))+((2)))\" = 0 | part 0 = 3 | words \"((((((1)+(1))))+((((((1\" = -7 | fault = 20",
                "words \"1+(1+(1+(1+(1+(1+(1+ (1\" = -7 | fault = 21 | words \"((((((  ((((\" = -7 | fault = 8 | "
                + "words \"(((((( x\" = -9 | fault = 7");
    }

    private static void faultsOfWords() {
        S.says("FAULTS 1, 2 as above (WORDS)",
                "words \"\" = -9 | fault = 0 | words \"  \" = -9 | fault = 2 | words \"1+\" = -9 | fault = 2 | words \"1 + \" = -9 | "
                + "fault = 4",
                "words \"+1\" = -9 | fault = 0 | words \"1 1\" = -9 | fault = 2 | words \"size size\" = -9 | fault = 5 | "
                + "words \"1)\" = -9 | fault = 1",
                "words \"(1\" = -9 | fault = 2 | words \"()\" = -9 | fault = 1 | words \"(1))\" = -9 | fault = 3 | words \"1 (2)\" = -9 | "
                + "fault = 2",
                "words \"10000+\" = -8 | fault = 0 | words \"+10000\" = -9 | fault = 0 | words \"1*/2\" = -9 | fault = 2 | "
                + "words \"1;\" = -9 | fault = 1",
                "words \"meters\" = -9 | fault = 0 | words \"mete\" = -9 | fault = 0 | words \"Meter\" = -9 | fault = 0 | "
                + "words \"1+sizes\" = -9 | fault = 2",
                "words \"sizeall\" = -9 | fault = 0 | words \"room\" = -9 | fault = 0 | words \"10000x\" = -8 | fault = 0 | "
                + "words \"1 x\" = -9 | fault = 2",
                "words \"meter+size+all+many+set\" = 0 | words \" meter - size * all / many + ( set ) \" = 0 | words \"2size\" = -9 | "
                + "fault = 1 | words \"size2\" = -9 | fault = 4");
    }

    private static void read(String call, String text, int due, int place) {
        BoilerTaps x = new BoilerTaps();
        Script.feed(x, text);
        int got = call.equals("words") ? x.words(text.length()) : x.claim(text.length());
        String sentence = "1 what can't stand there (" + call + ")";
        String shown = call + "(\"" + text + "\")";
        S.check(sentence, shown, got, due);
        S.check(sentence, "fault() behind " + shown, x.fault(), place);
    }

    private static void everyByteOfWords() {
        for (int b = 0; b < 256; b++) {
            boolean isDigit = b >= '0' && b <= '9';
            boolean isSign = b == '+' || b == '-' || b == '*' || b == '/';
            boolean good = b == 32 || isDigit;
            read("words", (char) b + "1", good ? 0 : -9, good ? -1 : b == '(' ? 2 : 0);
            read("words", "1" + (char) b, good ? 0 : -9, good ? -1 : isSign ? 2 : 1);
            read("words", "1" + (char) b + "1", isDigit || isSign ? 0 : -9, isDigit || isSign ? -1 : b == 32 ? 2 : 1);
            boolean isLetter = b >= 'a' && b <= 'z';
            read("words", "size" + (char) b, b == 32 ? 0 : -9, b == 32 ? -1 : isLetter ? 0 : isSign ? 5 : 4);
        }
    }

    private static void values() {
        S.says("VALUES are whole numbers of 32 bits that wrap", HOUSE,
                // 2 to the 31st, less 1, and 2 to the 32nd
                "words \"8192*8192*32\" = 0 | part 0 = 0 | words \"8192*8192*32-1\" = 0 | part 0 = 1000000 | "
                + "words \"8192*8192*32-1-8192*8192*31\" = 0 | part 0 = 1000000",
                "words \"8192*8192*64+7\" = 0 | part 0 = 7 | words \"8192*8192*32-1+1\" = 0 | part 0 = 0 | "
                + "words \"0-8192*8192*32-1\" = 0 | part 0 = 1000000",
                "words \"(8192*8192*32-1)/9999\" = 0 | part 0 = 214769 | words \"(8192*8192*32)/(0-9999)\" = 0 | part 0 = 214769",
                "words \"8192*8192*32/(0-1)\" = 0 | part 0 = 0 | words \"8192*8192*32/(0-1)-1\" = 0 | part 0 = 1000000",
                "words \"9999*9999*9999/9999\" = 0 | part 0 = 0 | words \"9999*9999*9999-9999*9999*9999+3\" = 0 | part 0 = 3");
        S.says("/ cuts, by 0 it is 0", HOUSE,
                "words \"6/7\" = 0 | part 0 = 0 | words \"7/7\" = 0 | part 0 = 1 | words \"13/7\" = 0 | part 0 = 1 | words \"14/7\" = 0 | "
                + "part 0 = 2",
                "words \"9+(0-6)/7\" = 0 | part 0 = 9 | words \"9+(0-7)/7\" = 0 | part 0 = 8 | words \"9+(0-13)/7\" = 0 | part 0 = 8 | "
                + "words \"9+13/(0-7)\" = 0 | part 0 = 8",
                "words \"(0-13)/(0-7)\" = 0 | part 0 = 1 | words \"7/0\" = 0 | part 0 = 0 | words \"0/0\" = 0 | part 0 = 0 | "
                + "words \"5+7/0*3\" = 0 | part 0 = 5",
                "words \"8/(2-2)+4\" = 0 | part 0 = 4 | words \"9/(0-0)/0+1\" = 0 | part 0 = 1 | words \"8/1\" = 0 | part 0 = 8 | "
                + "words \"9+8/(0-1)\" = 0 | part 0 = 1");
        S.says("as deep as it may go, with two things waiting at each level", HOUSE,
                "words \"1+1*(1+1*(1+1*(1+1*(1+1*(1+1*(1+1*3))))))\" = 0 | part 0 = 10",
                "words \"900-9*(9-2*(9-2*(9-2*(9-2*(9-2*(9-2*size))))))\" = 0 | part 0 = 2025 | "
                + "words \"((((((1+1*3))))))+((((((1+1*3))))))\" = 0 | part 0 = 8");
        S.says("old WORDS leave nothing behind", HOUSE, ("words \"1" + "+1".repeat(99) + "\" = 0 | part 0 = 100\n").repeat(6),
                "words \"7\" = 0 | part 0 = 7 | words \"size\" = 0 | part 0 = 1");
        S.says("E: T { + or - T }. T: U { * or / U }", HOUSE,
                "words \"9-3-2\" = 0 | part 0 = 4 | words \"64/4/2\" = 0 | part 0 = 8 | words \"7/2*2\" = 0 | part 0 = 6 | "
                + "words \"2*7/2\" = 0 | part 0 = 7",
                "words \"2+3*4-6/2\" = 0 | part 0 = 11 | words \"(2+3)*(4-6/2)\" = 0 | part 0 = 5 | words \"9-(3-2)\" = 0 | part 0 = 8 | "
                + "words \"64/(4/2)\" = 0 | part 0 = 32",
                // as many as there is room for
                "words \"1" + "+1".repeat(99) + "\" = 0 | part 0 = 100 | words \"1" + "*1".repeat(99) + "\" = 0 | part 0 = 1",
                "words \"200" + "-1".repeat(98) + "\" = 0 | part 0 = 102 | words \"" + "size+".repeat(39) + "size\" = 0 | part 0 = 40");
    }

    private static void meters() {
        String hundred = "new | house \"room 99 200;radiator 0 0 99;boiler 100 900;\" = 1 | words \"meter\" = 0 | part 0 = 0 | "
                + "go 1 = 100 | part 0 = 100\n";
        String less = "new | house \"room 99 200;radiator 0 0 99;boiler 99 900;\" = 1 | words \"meter\" = 0 | go 1 = 99 | part 0 = 99\n";
        S.says("\"meter\" (HEATS counted, and ERROR hundredths of that, cut)",
                hundred + "error 0 1 = 0 | part 0 = 101 | radiator 0 9 = 101 | error 0 -1 = 1 | part 0 = 99 | error 0 50 = -1 | "
                + "part 0 = 150 | error 0 -50 = 50 | part 0 = 50",
                "error 0 0 = -50 | part 0 = 100 | radiator 0 9 = 100 | radiator 0 8 = 100",
                less + "error 0 1 = 0 | part 0 = 99 | error 0 2 = 1 | part 0 = 100 | radiator 0 9 = 100 | error 0 50 = 2 | part 0 = 148 | "
                + "error 0 -1 = 50 | part 0 = 99",
                "error 0 -2 = -1 | part 0 = 98 | error 0 -50 = -2 | part 0 = 50 | radiator 0 9 = 50 | radiator 0 8 = 99");
        S.says("\"all\" (all METERS together, as they show), \"many\" (RADIATORS), \"size\"",
                "house \"room 99 200;radiator 0 0 98;radiator 0 1 98;boiler 199 900;\" = 1 | words \"all\" = 0 | part 1 = 0 | "
                + "go 1 = 198 | part 0 = 198 | part 1 = 198",
                "error 0 1 = 0 | part 1 = 198 | error 1 2 = 0 | part 0 = 199 | part 1 = 199 | error 0 -50 = 1 | part 1 = 150 | "
                + "error 1 -50 = 2 | part 0 = 100",
                "words \"many*100+size\" = 0 | part 0 = 298 | house \"room 1 1;" + "radiator 0 0 7;".repeat(8) + "\" = 1 | part 7 = 807",
                "house \"room 1 1;radiator 0 0 99;\" = 1 | part 0 = 199");
        S.says("\"set\" (tenths; 0 without TAP)", "words \"set+5\" = 0",
                "house \"room 1 1;radiator 0 0 1;radiator 0 0 1;radiator 0 0 1;snap 0 400;slow 1 0;\" = 1 | part 0 = 405 | part 1 = 5 | "
                + "part 2 = 5");
    }

    private static void parts() {
        S.says("PART of a RADIATOR: the VALUE, 0 at least, 1,000,000 at most", HOUSE,
                "words \"0-1\" = 0 | part 0 = 0 | words \"0\" = 0 | part 0 = 0 | words \"1\" = 0 | part 0 = 1",
                "words \"100*100*100-1\" = 0 | part 0 = 999999 | words \"100*100*100\" = 0 | part 0 = 1000000 | "
                + "words \"100*100*100+1\" = 0 | part 0 = 1000000",
                "words \"8192*8192*31\" = 0 | part 0 = 1000000 | words \"0-8192*8192*31\" = 0 | part 0 = 0");
        S.says("part: (0 without WORDS); NoSuchElementException: no such RADIATOR",
                "part 0 = NSEE | part -1 = NSEE", HOUSE, "part 0 = 0 | pays 0 1000 = 0 | part 1 = NSEE | part -1 = NSEE | "
                + "words \"x\" = -9 | part 0 = 0 | words \"8\" = 0 | part 0 = 8",
                "part 1 = NSEE | part 2147483647 = NSEE | part -2147483648 = NSEE | pays 1 5 = NSEE | pays -1 5 = NSEE",
                "house \"room 1 1;" + "radiator 0 0 1;".repeat(8) + "\" = 1 | part 7 = 8 | part 8 = NSEE");
    }

    private static void bills() {
        String three = "house \"room 1 0;radiator 0 0 1;radiator 0 0 2;radiator 0 0 3;\" = 1\n";
        S.says("A BILL (0 to 1,000,000)", three, "words \"size\" = 0 | pays 0 -1 = IAE | pays 0 0 = 0 | pays 2 0 = 0 | pays 2 1 = 1 | "
                + "pays 0 1 = 0 | pays 1 1 = 0",
                // the rests of RADIATORS 0 and 2 are alike
                "pays 0 999999 = 166667 | pays 1 999999 = 333333 | pays 2 999999 = 499999 | pays 0 1000000 = 166667 | "
                + "pays 1 1000000 = 333333 | pays 2 1000000 = 500000",
                "pays 0 1000001 = IAE | pays 0 2147483647 = IAE | pays 0 -2147483648 = IAE");
        S.says("to each its part, cut; what is left 1 to each, to the greatest rests first", three,
                // rests of 10: 1 4/6, 3 2/6, 5; of 11: 1 5/6, 3 4/6, 5 3/6; of 7: 1 1/6, 2 2/6, 3 3/6
                "words \"size\" = 0 | pays 0 10 = 2 | pays 1 10 = 3 | pays 2 10 = 5 | pays 0 11 = 2 | pays 1 11 = 4 | pays 2 11 = 5",
                "pays 0 7 = 1 | pays 1 7 = 2 | pays 2 7 = 4 | pays 0 6 = 1 | pays 1 6 = 2 | pays 2 6 = 3");
        S.says("of alike ones to the lesser RADIATOR", three, "words \"1\" = 0 | pays 0 1 = 1 | pays 1 1 = 0 | pays 2 1 = 0 | "
                + "pays 0 2 = 1 | pays 1 2 = 1 | pays 2 2 = 0",
                "pays 0 3 = 1 | pays 1 3 = 1 | pays 2 3 = 1 | pays 0 4 = 2 | pays 1 4 = 1 | pays 2 4 = 1");
        S.says("to nobody, if all PARTS are 0", three, "words \"0\" = 0 | pays 0 1000 = 0 | pays 1 1000 = 0 | pays 2 1000 = 0 | "
                + "words \"0-size\" = 0 | pays 2 1000 = 0",
                "words \"size-2\" = 0 | pays 0 1000 = 0 | pays 1 1000 = 0 | pays 2 1000 = 1000 | words \"size/3\" = 0 | pays 0 7 = 0 | "
                + "pays 1 7 = 0 | pays 2 7 = 7",
                "words \"size-1\" = 0 | pays 0 1 = 0 | pays 1 1 = 0 | pays 2 1 = 1 | pays 1 2 = 1 | pays 2 2 = 1 | pays 0 2 = 0");
        S.says("A BILL is parted by PARTS, the greatest of all", "house \"room 1 0;" + "radiator 0 0 1;".repeat(8) + "\" = 1 | "
                + "words \"1000*1000\" = 0",
                "pays 0 1000000 = 125000 | pays 7 1000000 = 125000 | pays 0 999999 = 125000 | pays 6 999999 = 125000 | "
                + "pays 7 999999 = 124999",
                "pays 0 1 = 1 | pays 1 1 = 0 | pays 0 7 = 1 | pays 6 7 = 1 | pays 7 7 = 0 | pays 7 8 = 1 | pays 8 8 = NSEE");
    }

    private static void numbersOfClaims() {
        String none = "judge = -1";
        for (String word : new String[] {"under", "over"}) {
            S.number(word + " R: 0 to 7", "", "claim", 0, new Sentences.Place(word + " ", " 200 0 0", 0, 7, none));
            S.number(word + " N: 0 to 400", "", "claim", 0, new Sentences.Place(word + " 0 ", " 0 0", 0, 400, none));
            S.number(word + " H: 0 to 47", "", "claim", 0, new Sentences.Place(word + " 0 200 ", " 47", 0, 47, none));
            S.number(word + " H H: 0 to 47", "", "claim", 0, new Sentences.Place(word + " 0 200 0 ", "", 0, 47, none));
        }
        for (String word : new String[] {"opened", "got"}) {
            S.number(word + " R: 0 to 7", "", "claim", 0, new Sentences.Place(word + " ", " 0 0", 0, 7, none));
            S.number(word + " H: 0 to 47", "", "claim", 0, new Sentences.Place(word + " 0 ", " 47", 0, 47, none));
            S.number(word + " H H: 0 to 47", "", "claim", 0, new Sentences.Place(word + " 0 0 ", "", 0, 47, none));
        }
        S.says("H 0 to 47, the second one not below the first one (FAULT 2 at it)",
                "claim \"got 0 5 4\" = -8 | fault = 8 | claim \"got 0 5 5\" = 0 | fault = -1 | claim \"got 0 5 6\" = 0 | "
                + "claim \"got 0 47 46\" = -8 | fault = 9 | claim \"got 0 47 47\" = 0",
                "claim \"got 0 47 48\" = -8 | fault = 9 | claim \"got 0 1 0\" = -8 | fault = 8 | claim \"got 0 0 0\" = 0 | "
                + "claim \"under 0 1 2 1\" = -8 | fault = 12 | claim \"under 0 1 2 2\" = 0",
                "claim \"over 0 1 9 8\" = -8 | fault = 11 | claim \"over 0 1 9 09\" = 0 | claim \"opened 0 9 8\" = -8 | fault = 11 | "
                + "claim \"opened 0 9 9\" = 0 | claim \"opened 0 46 47\" = 0");
    }

    private static void openAtOneTime() {
        StringBuilder rows = new StringBuilder();
        String s = "got 0 0 0";
        for (int nots = 0; nots <= 7; nots++) {
            // so many nots, then brackets up to six in all; then a seventh of either kind
            int brackets = Math.max(0, 6 - nots);
            String open = "not ".repeat(nots) + "[".repeat(brackets);
            if (nots <= 6) {
                rows.append("claim \"" + open + s + "]".repeat(brackets) + "\" = 0 | fault = -1\n");
                rows.append("claim \"" + open + "[" + s + "]".repeat(brackets + 1) + "\" = -7 | fault = " + open.length() + "\n");
                rows.append("claim \"" + open + " not " + s + "]".repeat(brackets) + "\" = -7 | fault = " + (open.length() + 1) + "\n");
                rows.append("claim \"" + open + "\" = -9 | fault = " + open.length() + "\n");
            }
        }
        S.says("3: a 7th of [ and not that is open at one time", rows.toString(),
                "claim \"[[[[[[[\" = -7 | fault = 6 | claim \"not not not not not not not\" = -7 | fault = 24 | claim \"[[[[[[ x\" = -9 | "
                + "fault = 7",
                "claim \"not [not [not [got 0 0 0]]]\" = 0 | claim \"[not [not [not got 0 0 0]]]\" = 0 | "
                + "claim \"[not [not [not [got 0 0 0]]]]\" = -7 | fault = 15",
                "claim \"[not[not[not not got 0 0 0]]]\" = -7 | fault = 13 | claim \"[[[[[[notgot 0 0 0\" = -9 | fault = 6");
        S.says("a not till its B ends",
                "claim \"" + "not ".repeat(6) + s + " and " + "not ".repeat(6) + s + " or " + "[".repeat(6) + s + "]".repeat(6) + "\" = 0",
                "claim \"not " + s + " and " + "[".repeat(6) + s + "]".repeat(6) + "\" = 0",
                "claim \"not " + s + " or " + "[".repeat(7) + "\" = -7 | fault = 23 | claim \"not " + s + " and [[[[[[" + "not \" = -7 | "
                + "fault = 24",
                "claim \"[not " + s + " and [[[[[" + s + "]]]]]]\" = 0 | claim \"[not " + s + " and [[[[[[" + s + "]]]]]]]\" = -7 | "
                + "fault = 24",
                "claim \"not [" + s + " and [[[[" + s + "]]]]]\" = 0 | claim \"not [" + s + " and [[[[[" + s + "]]]]]]\" = -7 | fault = 23",
                "claim \"[[[[[[" + s + "]]]]]] and [[[[[[" + s + "]]]]]]\" = 0 | claim \"[[[[[[" + s + "] or [" + s + "]]]]]]\" = 0");
    }

    private static void faultsOfClaims() {
        S.says("FAULTS as above (CLAIM)",
                "claim \"\" = -9 | fault = 0 | claim \"  \" = -9 | fault = 2 | claim \"not\" = -9 | fault = 3 | "
                + "claim \"[got 0 0 0\" = -9 | fault = 10 | claim \"[got 0 0 0  \" = -9 | fault = 12",
                "claim \"got\" = -9 | fault = 3 | claim \"got 0\" = -9 | fault = 5 | claim \"got 0 0\" = -9 | fault = 7 | "
                + "claim \"got 0 0 \" = -9 | fault = 8",
                "claim \"under 0 0 0\" = -9 | fault = 11 | claim \"had 0\" = -9 | fault = 0 | claim \"Got 0 0 0\" = -9 | fault = 0 | "
                + "claim \"gots 0 0 0\" = -9 | fault = 0",
                "claim \"and got 0 0 0\" = -9 | fault = 0 | claim \"or\" = -9 | fault = 0 | claim \"got 0 0 0 and\" = -9 | fault = 13 | "
                + "claim \"got 0 0 0 or or\" = -9 | fault = 13",
                "claim \"notgot 0 0 0\" = -9 | fault = 0 | claim \"[]\" = -9 | fault = 1 | claim \"got 8 0 0 x\" = -8 | fault = 4 | "
                + "claim \"got x 99 0\" = -9 | fault = 4",
                "claim \"got0 0 0and got0 0 0or[got0 0 0]\" = 0 | claim \" [ not [ got 0 0 0 ] ] and  got 0 0 0 \" = 0 | "
                + "claim \"got 000 0\" = -9 | fault = 9");
        S.says("behind C 1",
                "claim \"got 0 0 0]\" = -9 | fault = 9 | claim \"got 0 0 0 ]\" = -9 | fault = 10 | claim \"got 0 0 0 0\" = -9 | "
                + "fault = 10 | claim \"got 0 0 0;\" = -9 | fault = 9",
                "claim \"got 0 0 0 got 0 0 0\" = -9 | fault = 10 | claim \"got 0 0 0 not got 0 0 0\" = -9 | fault = 10 | "
                + "claim \"got 0 0 0 [got 0 0 0]\" = -9 | fault = 10",
                "claim \"got 0 0 0 andgot 0 0 0\" = -9 | fault = 10 | claim \"got 0 0 0 xor got 0 0 0\" = -9 | fault = 10 | "
                + "claim \"[got 0 0 0]]\" = -9 | fault = 11 | claim \"got 0 0 0   \" = 0");
    }

    private static void everyByteOfClaims() {
        for (int b = 0; b < 256; b++) {
            boolean isDigit = b >= '0' && b <= '9';
            boolean isLetter = b >= 'a' && b <= 'z';
            read("claim", (char) b + "got 0 0 0", b == 32 ? 0 : -9, b == 32 ? -1 : b == '[' ? 10 : 0);
            read("claim", "got 0 0 0" + (char) b, b == 32 || isDigit ? 0 : -9, b == 32 || isDigit ? -1 : 9);
            read("claim", "got" + (char) b + "0 0 0", b == 32 || b == '0' ? 0 : isDigit ? -8 : -9,
                    b == 32 || b == '0' ? -1 : isDigit ? 3 : isLetter ? 0 : 3);
            read("claim", "[got 0 0 0" + (char) b, b == ']' ? 0 : -9, b == ']' ? -1 : b == 32 || isDigit ? 11 : 10);
        }
    }

    private static String judged(String... claimsAndVerdicts) {
        StringBuilder rows = new StringBuilder();
        for (int i = 0; i < claimsAndVerdicts.length; i += 2) {
            rows.append("claim \"").append(claimsAndVerdicts[i]).append("\" = 0 | judge = ").append(claimsAndVerdicts[i + 1]).append('\n');
        }
        return rows.toString();
    }

    /** HOURS back: 0 nothing, 1 it GOT 1, 2 its window was open for a MINUTE; 2000 all the time. */
    private static String threeHours() {
        return "house \"room 99 200;radiator 0 0 99;boiler 1 900;\" = 1 | air 0 true = false | open 0 true = false | go 1 = 0 | "
                + "open 0 false = true | go 59 = 0\n"
                + "go 30 = 0 | air 0 false = true | go 1 = 1 | air 0 true = false | go 29 = 0 | go 60 = 0 | count 6 = 3 | "
                + "room 0 1 = 2000\n";
    }

    private static void sayings() {
        S.says("\"under\": LEAST of that ROOM is below N tenths", threeHours(),
                judged("under 0 199 0 0", "0", "under 0 200 0 0", "0", "under 0 201 0 0", "1", "under 0 400 0 2", "1", "under 0 0 0 2",
                "0"),
                "new | house \"room 1 200;outer 0 1;\" = 1 | out 0 1900 = 0 | go 60 = 0 | diary 0 0 0 = 1999", judged("under 0 200 0 0",
                "1", "under 0 199 0 0", "0"),
                // LEAST, not GREATEST
                "new | house \"room 1 100;sun 0 1 0 1;\" = 1 | go 60 = 0 | diary 0 0 0 = 1001 | diary 0 0 1 = 1060",
                judged("under 0 101 0 0", "1", "under 0 100 0 0", "0"),
                "new | house \"room 1 0;outer 0 1;\" = 1 | out 0 -100 = 0 | go 60 = 0 | diary 0 0 0 = -1", judged("under 0 0 0 0", "1"));
        S.says("\"over\": in each GREATEST is above", threeHours(),
                judged("over 0 199 0 0", "1", "over 0 200 0 0", "0", "over 0 201 0 0", "0", "over 0 0 0 2", "1", "over 0 400 0 2", "0"),
                "new | house \"room 1 200;outer 0 1;\" = 1 | out 0 2100 = 0 | go 60 = 0 | diary 0 0 1 = 2001", judged("over 0 200 0 0",
                "1", "over 0 201 0 0", "0"),
                "new | house \"room 1 100;sun 0 1 0 1;\" = 1 | go 60 = 0", judged("over 0 105 0 0", "1", "over 0 106 0 0", "0"));
        S.says("in each HOUR from the one H back to the other H back",
                "house \"room 1 100;sun 0 1 1 2;\" = 1 | go 180 = 0",
                judged("under 0 101 2 2", "1", "under 0 101 1 2", "1", "under 0 101 0 2", "0", "under 0 101 0 1", "0", "under 0 101 0 0",
                "0", "under 0 107 0 2", "1",
                        "over 0 100 1 1", "1", "over 0 100 0 1", "1", "over 0 100 1 2", "0", "over 0 100 0 2", "0", "over 0 100 2 2",
                        "0", "over 0 99 0 2", "1"));
        S.says("\"opened\": in some of these its window was open", threeHours(),
                judged("opened 0 2 2", "1", "opened 0 1 1", "0", "opened 0 0 1", "0", "opened 0 0 2", "1", "opened 0 1 2", "1",
                "opened 0 0 0", "0"));
        S.says("\"got\": in some it GOT something", threeHours(),
                judged("got 0 1 1", "1", "got 0 0 0", "0", "got 0 2 2", "0", "got 0 0 1", "1", "got 0 1 2", "1", "got 0 0 2", "1"));
    }

    private static void hoursThatAreThere() {
        String no = "new | claim \"got 0 0 0\" = 0 | judge = -1 | house \"room 1 1;\" = 1 | judge = -1 | go 59 = 0 | judge = -1 | "
                + "go 1 = 0 | judge = 0\n";
        S.says("S is OPEN, if .. one of its HOURS is not there", no, threeHours(),
                judged("opened 0 2 2", "1", "opened 0 2 3", "-1", "opened 0 3 3", "-1", "opened 0 0 3", "-1", "got 0 1 3", "-1",
                "under 0 400 0 3", "-1", "under 0 0 0 3", "-1",
                        "over 0 0 0 47", "-1", "over 0 400 2 3", "-1", "opened 0 47 47", "-1"),
                "new | house \"room 1 1;\" = 1 | open 0 true = false | go 60 = 0 | open 0 false = true | go 960 = 0 | go 960 = 0 | "
                + "go 840 = 0 | count 6 = 47",
                judged("opened 0 46 46", "1", "opened 0 47 47", "-1", "opened 0 46 47", "-1"),
                "go 59 = 0 | judge = -1 | go 1 = 0 | count 6 = 48 | judge = 1", judged("opened 0 47 47", "1", "opened 0 46 46", "0",
                "opened 0 0 47", "1"),
                "go 60 = 0 | count 6 = 48 | judge = 0");
        S.says("S is OPEN, if there is no such ROOM", threeHours(), judged("got 0 1 1", "1", "got 1 1 1", "-1", "got 7 1 1", "-1",
                "opened 1 2 2", "-1", "under 1 400 0 0", "-1", "over 1 0 0 0", "-1"),
                "house \"" + "room 1 1;".repeat(8) + "\" = 8 | go 60 = 0", judged("got 7 0 0", "0", "not got 7 0 0", "1"),
                "house \"" + "room 1 1;".repeat(7) + "\" = 7 | go 60 = 0 | judge = -1", judged("got 6 0 0", "0"));
        S.says("judge: -1 OPEN (also without a CLAIM)", "judge = -1 | house \"room 1 1;\" = 1 | judge = -1 | go 999 = 0 | judge = -1 | "
                + "claim \"got 0 0\" = -9 | judge = -1 | claim \"got 0 0 0\" = 0 | judge = 0");
    }

    /** All ways to join yes, no and OPEN. */
    private static void joined() {
        S.says("not of OPEN is OPEN", threeHours(), judged(YES, "1", NO, "0", OPEN, "-1", "not " + YES, "0", "not " + NO, "1",
                "not " + OPEN, "-1",
                "not not " + OPEN, "-1", "not not " + YES, "1", "not [" + OPEN + "]", "-1"));
        S.says("of and: no, if one is no; else OPEN, if one is", threeHours(),
                judged(YES + " and " + YES, "1", YES + " and " + NO, "0", NO + " and " + YES, "0", NO + " and " + NO, "0",
                YES + " and " + OPEN, "-1", OPEN + " and " + YES, "-1",
                        NO + " and " + OPEN, "0", OPEN + " and " + NO, "0", OPEN + " and " + OPEN, "-1",
                        YES + " and " + OPEN + " and " + NO, "0", OPEN + " and " + YES + " and " + YES, "-1",
                        YES + " and " + YES + " and " + YES, "1", "[" + OPEN + "] and [" + NO + "]", "0"));
        S.says("of or: yes, if one is yes; else OPEN, if one is", threeHours(),
                judged(YES + " or " + YES, "1", YES + " or " + NO, "1", NO + " or " + YES, "1", NO + " or " + NO, "0",
                YES + " or " + OPEN, "1", OPEN + " or " + YES, "1",
                        NO + " or " + OPEN, "-1", OPEN + " or " + NO, "-1", OPEN + " or " + OPEN, "-1",
                        NO + " or " + OPEN + " or " + YES, "1", NO + " or " + NO + " or " + OPEN, "-1"));
        String deep = "got0 0 0or got0 1 1and[".repeat(6) + "got0 0 0or got0 1 1and got0 1 1" + "]".repeat(6);
        S.says("as deep as it may go, with two sayings waiting at each level", threeHours(), judged(deep, "1",
                deep.replace("and got0 1 1", "and got0 0 0"), "0", deep.replace("and got0 1 1", "and got0 3 3"), "-1"));
        String longest = YES + " and got 0 0 1".repeat(12);
        StringBuilder many = new StringBuilder();
        for (int i = 0; i < 9; i++) {
            many.append(judged(longest, "1", longest + " and " + NO, "0"));
        }
        S.says("an old CLAIM leaves nothing behind", threeHours(), many.toString(), judged(YES, "1", NO, "0", OPEN, "-1", YES, "1"));
        S.says("C: A { \"or\" A }. A: B { \"and\" B }", threeHours(),
                judged(YES + " or " + YES + " and " + NO, "1", "[" + YES + " or " + YES + "] and " + NO, "0",
                NO + " and " + YES + " or " + YES, "1", NO + " and [" + YES + " or " + YES + "]", "0",
                        "not " + NO + " and " + NO, "0", "not [" + NO + " and " + NO + "]", "1", "not " + YES + " or " + YES, "1",
                        "not [" + YES + " or " + YES + "]", "0"));
    }

    private static void staysWithFault() {
        S.says("words: or the FAULT less 10 (the WORDS stay)", HOUSE,
                "words \"5\" = 0 | words \"7+\" = -9 | part 0 = 5 | words \"10000\" = -8 | part 0 = 5 | words \"(((((((\" = -7 | "
                + "part 0 = 5 | words \"6\" = 0 | part 0 = 6");
        S.says("claim: or the FAULT less 10 (the CLAIM stays)", threeHours(),
                "claim \"got 0 1 1\" = 0 | judge = 1 | claim \"got 0 0 0 or\" = -9 | judge = 1 | claim \"got 0 0 48\" = -8 | judge = 1",
                "claim \"[[[[[[[\" = -7 | judge = 1 | claim \"got 0 0 0\" = 0 | judge = 0");
    }
}
