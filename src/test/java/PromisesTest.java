/** Each promise by itself: ordinary inputs, the edges that the document names, and wrong inputs. */
public final class PromisesTest {
    private static final String IAE = "throws.IllegalArgumentException";
    private static final String IOOBE = "throws.IndexOutOfBoundsException";
    private static final String NSEE = "throws.NoSuchElementException";
    private static final String ISE = "throws.IllegalStateException";
    private static int wrong;

    /** =IAE and its like stand for what is thrown. */
    private static void promise(int number, String rows) {
        String told = rows.replace("=IAE", "= " + IAE).replace("=IOOBE", "= " + IOOBE)
                .replace("=NSEE", "= " + NSEE).replace("=ISE", "= " + ISE);
        wrong += Script.play("promise " + number, told);
    }

    public static void main(String[] args) {
        texts();
        houseFaults();
        wordsFaults();
        claimFaults();
        looks();
        settings();
        minutes();
        tapsMove();
        nightsAndHolidays();
        causes();
        trials();
        bills();
        diaries();
        judgements();
        pipes();
        marks();
        System.out.println(wrong == 0 ? "all promises hold" : wrong + " answers are not as due");
        if (wrong != 0) {
            System.exit(1);
        }
    }

    private static void texts() {
        promise(1, """
            told 0 = 0 | told 1 = 0 | told 2 = 100 | told 3 = 9999 | told 4 = 600 | told 5 = 0
            fault = -1 | things = 4 | judge = -1 | clock 0 = 0 | clock 1 = 0 | clock 2 = 0 | clock 3 = 0
            hunts 1 = 0 | count 0 = 0 | count 1 = 0 | count 2 = 0 | count 3 = 0 | count 4 = 0 | count 5 = 0
            count 6 = 0 | count 7 = 0 | count 8 = 0 | dead 0 = 0 | wear 9 = 0 | pump 5 = 100
            room 0 0 =IOOBE | radiator 0 0 =NSEE | part 0 =NSEE | go 0 =ISE | wake 0 0 0 =ISE | turning 0 0 =ISE
            explained -1 -1 0 =ISE | explained 20 23 0 =ISE | explained 0 -1 0 =IAE | cause 0 0 =ISE
            balanced 0 0 0 =NSEE | wish 0 0 0 -1 =NSEE | log 1 0 0 =IOOBE
            mark = 1 | back = 0 | house 0 = -6
            """);
        StringBuilder full = new StringBuilder();
        for (int i = 1; i <= 25; i++) {
            full.append("feed 1 2 3 4 5 = ").append(20 * i).append('\n');
        }
        promise(2, full + """
            feed 1 2 3 4 5 = -1 | count 2 = 500 | feed 0 0 0 0 0 = -1
            house 501 =IAE | house -1 =IAE | count 2 = 500
            house 500 = -9 | fault = 0 | count 2 = 0 | feed 0 0 0 0 0 = 20
            // the highest byte first: "room", " 7 1", "00; ", and bytes above 127
            house 0 = -6 | feed 1919905645 540483633 808467232 -1 -1 = 20 | house 12 = 1 | room 0 0 = 7 | room 0 1 = 1000
            feed 1919905645 540483633 808467232 -1 -1 = 20 | house 13 = -9 | fault = 12
            """);
        promise(3, """
            house "room 7 100;room 8 200;" = 2 | told 0 = 2 | count 2 = 0 | house 1 =IAE
            house "room 0 100;" = -8 | told 0 = 2 | room 1 0 = 8 | house "room 1 1" = -9 | told 0 = 2
            house "  room  007   0100  ;  " = 1 | room 0 0 = 7 | room 0 1 = 1000
            house "room7 100;" = 1 | house "room7;" = -9 | fault = 5
            """);
        promise(4, """
            words "size" = 0 | words "size+" = -9 | house "room 1 0;radiator 0 0 42;" = 1 | part 0 = 42
            words 1 =IAE | feed 0 0 0 0 0 = 20 | words 21 =IAE | words -1 =IAE | count 2 = 20 | words 0 = -9 | count 2 = 0
            """ + "words \"1" + "+1".repeat(99) + " \" = 0 | part 0 = 100\n"
            + "words \"1" + "+1".repeat(100) + "\" =IAE | count 2 = 220 | part 0 = 100\n");
        promise(5, """
            fault = -1 | house "room 1 1;room 100 1;" = -8 | fault = 14 | house 99 =IAE | fault = 14
            words "2+2" = 0 | fault = -1 | words "2+?" = -9 | fault = 2 | claim "got 0 0 0" = 0 | fault = -1
            claim "got 0 0 x" = -9 | fault = 8 | house "room 1 1;" = 1 | fault = -1
            """);
        promise(6, """
            house "room 7 100;pump 3;boiler 12345 890;pump 4;radiator 0 0 1;" = 1
            told 0 = 1 | told 1 = 1 | told 2 = 4 | told 3 = 12345 | told 4 = 890 | told 5 = 5 | told 6 =IAE | told -1 =IAE
            pump 9 = 4 | told 2 = 4 | house "room 1 1;" = 1 | told 2 = 100 | told 3 = 9999 | told 4 = 600 | told 5 = 1
            """);
    }

    private static void fault(String method, String text, int kind, int place) {
        promise(method.equals("house") ? 3 : method.equals("words") ? 4 : 32,
                method + " \"" + text + "\" = " + (kind - 10) + " | fault = " + place + "\n");
    }

    private static void houseFaults() {
        String rooms = "room 1 1;room 1 1;";
        fault("house", "Room 1 1;", 1, 0);
        fault("house", "room 1 1;;", 1, 9);
        fault("house", "room 1 1;5", 1, 9);
        fault("house", "rooms 1 1;", 1, 0);
        fault("house", "roo", 1, 0);
        fault("house", "room", 1, 4);
        fault("house", "room  ", 1, 6);
        fault("house", "room -1 1;", 1, 5);
        fault("house", "room 1 1 1;", 1, 9);
        fault("house", "room 1 1 room 1 1;", 1, 9);
        fault("house", "room 100 1;", 2, 5);
        fault("house", "room 1 99999999999999999999;", 2, 7);
        fault("house", "room 4294967297 1;", 2, 5);
        fault("house", "room 1 401", 2, 7);
        fault("house", rooms + "wall 0 2 1;", 2, 25);
        fault("house", rooms + "wall 2 0 1;", 2, 23);
        fault("house", rooms + "wall 1 1 1;", 2, 25);
        fault("house", rooms + "wall 0 1 100;", 2, 27);
        fault("house", rooms + "outer 2 1;", 2, 24);
        fault("house", rooms + "outer 1 100;", 2, 26);
        fault("house", rooms + "window 0 100;", 2, 27);
        fault("house", rooms + "sun 0 1000 0 1;", 2, 24);
        fault("house", rooms + "sun 0 1 25 26;", 2, 26);
        fault("house", rooms + "sun 0 1 5 4;", 2, 28);
        fault("house", rooms + "sun 0 1 5 25;", 2, 28);
        fault("house", rooms + "radiator 2 0 1;", 2, 27);
        fault("house", rooms + "radiator 1 4 1;", 2, 29);
        fault("house", rooms + "radiator 1 3 0;", 2, 31);
        fault("house", rooms + "radiator 1 3 100;", 2, 31);
        fault("house", "slow 0 1;", 2, 5);
        fault("house", rooms + "radiator 1 3 1;draught 1 1;", 2, 41);
        fault("house", rooms + "radiator 1 3 1;draught 0 401;", 2, 43);
        fault("house", "pump 1000;", 2, 5);
        fault("house", "boiler 0 300;", 2, 7);
        fault("house", "boiler 100000 300;", 2, 7);
        fault("house", "boiler 1 901;", 2, 9);
        fault("house", "radiator 0 0 1;room 1 1;", 2, 9);
        fault("house", "room 1 1;" + "radiator 0 0 1;".repeat(8) + "radiator 0 0 1;", 3, 129);
        fault("house", "room 1 1;".repeat(8) + " room", 3, 73);
        fault("house", "pump 1;".repeat(40) + "tap 1;", 1, 280);
        fault("house", "pump 1;".repeat(40) + ";", 1, 280);
        fault("house", "pump 1;".repeat(40) + "room 1 1;", 3, 280);
        fault("house", "pump 1;".repeat(40) + "  ", 4, 282);
        fault("house", "pump 1", 1, 6);
        fault("house", "   ", 4, 3);
        promise(3, "house \"" + "pump 1;".repeat(39) + "room 1 1;\" = 1 | told 5 = 40\n");
        promise(3, "house \"" + rooms + "sun 0 0 0 24;wall 0 1 0;outer 0 0;window 1 0;boiler 1 200;pump 1;radiator 0 0 1;\" = 2\n");
        promise(3, "house \"" + "room 1 1;".repeat(8) + "radiator 7 3 99;".repeat(8) + "\" = 8 | told 1 = 8\n");
        promise(3, "house \"" + rooms + "sun 0 999 0 24;wall 0 1 99;outer 0 99;window 1 99;boiler 99999 900;"
                + "pump 999;room 99 400;radiator 2 0 1;slow 0 400;snap 0 0;\" = 3 | radiator 0 3 = 1 | radiator 0 4 = 0\n");
    }

    private static void wordsFaults() {
        fault("words", "  ", 1, 2);
        fault("words", "+1", 1, 0);
        fault("words", "1 1", 1, 2);
        fault("words", "1+*1", 1, 2);
        fault("words", "meter meter", 1, 6);
        fault("words", "Meter", 1, 0);
        fault("words", "9 9999 ", 1, 2);
        fault("words", "size*10000", 2, 5);
        fault("words", "(1", 1, 2);
        fault("words", "(1;", 1, 2);
        fault("words", "()", 1, 1);
        fault("words", "1)", 1, 1);
        fault("words", "((((((1+( 2", 3, 8);
        fault("words", " ((((((1)))))) + ((((((many))))))+(((((( (1", 3, 41);
        promise(4, "words \"((((((09999))))))\" = 0 | words \"((((((1)))))) *((((((many))))))\" = 0\n");
        promise(27, """
            house "room 1 0;radiator 0 0 42;radiator 0 0 1;snap 0 123;" = 1 | part 0 = 0
            words "2+3*4" = 0 | part 0 = 14 | words "(2+3)*4" = 0 | part 0 = 20 | words "20-5-3" = 0 | part 0 = 12
            words "100/10/5" = 0 | part 0 = 2 | words "7/2*2" = 0 | part 0 = 6 | words "10+(0-7)/2" = 0 | part 0 = 7
            words "5+7/0" = 0 | part 0 = 5 | words "0-1" = 0 | part 0 = 0 | words "9999*9999" = 0 | part 0 = 1000000
            words "9999*9999*22" = 0 | part 0 = 0 | words "9999*9999*43/5" = 0 | part 0 = 834549
            words "9999*101-9899" = 0 | part 0 = 1000000 | words "9999*101-9900" = 0 | part 0 = 999999
            words "1000*1000+1" = 0 | part 0 = 1000000
            words "many*100+set" = 0 | part 0 = 323 | part 1 = 200 | words "size" = 0 | part 0 = 42 | part 1 = 1
            part 2 =NSEE | part -1 =NSEE
            // as deep as it may go, with two things waiting at each level
            words "1+1*(1+1*(1+1*(1+1*(1+1*(1+1*(1+1*3))))))" = 0 | part 0 = 10
            words "9-9*(9-9*(9-9*(9-9*(9-9*(9-9*(0+1*size))))))" = 0 | part 0 = *
            """);
        // old WORDS leave nothing behind, however long they were
        String longWords = "words \"0" + "+1".repeat(99) + "\" = 0 | part 0 = 99\n";
        promise(27, "house \"room 1 0;radiator 0 0 42;\" = 1\n" + longWords.repeat(6) + "words \"size\" = 0 | part 0 = 42\n");
    }

    private static void claimFaults() {
        fault("claim", "", 1, 0);
        fault("claim", "not", 1, 3);
        fault("claim", "not or", 1, 4);
        fault("claim", "notgot 0 0 0", 1, 0);
        fault("claim", "got 0 0 0 or", 1, 12);
        fault("claim", "got 0 0 0 xor got 0 0 0", 1, 10);
        fault("claim", "got 0 0 0 got 0 0 0", 1, 10);
        fault("claim", "got 0 0 0]", 1, 9);
        fault("claim", "[got 0 0 0 ;", 1, 11);
        fault("claim", "got 8 0 0", 2, 4);
        fault("claim", "opened 0 48 48", 2, 9);
        fault("claim", "opened 0 1 0", 2, 11);
        fault("claim", "over 0 401 0 0", 2, 7);
        fault("claim", "[[[[[[ [got 0 0 0", 3, 7);
        fault("claim", "not [not [not [ not got 0 0 0", 3, 16);
        promise(32, """
            claim "not not not not not not got 0 0 0 and not [[[[[got 7 47 47]]]]]" = 0 | fault = -1
            claim "under 7 400 0 47 or over7 0 47 47and[opened 0 0 0]" = 0 | claim 1 =IAE
            feed 0 0 0 0 0 = 20 | claim 21 =IAE | claim -1 =IAE | count 2 = 20 | claim 20 = -9 | fault = 0 | count 2 = 0
            """ + "claim \"got 0 0 0" + " ".repeat(191) + "\" = 0\n"
            + "claim \"got 0 0 0" + " ".repeat(192) + "\" =IAE\n");
    }

    private static void looks() {
        promise(7, """
            house "room 1 100;room 2 0;wall 0 1 50;outer 0 7;window 0 33;sun 1 60 0 1;radiator 1 0 10;" = 2
            room 0 0 = 1 | room 0 1 = 1000 | room 0 2 = 7 | room 0 3 = 33 | room 0 4 = 0 | room 1 0 = 2 | room 1 3 = 0
            room 0 5 = 0 | room 0 6 = 0 | room 0 7 = 0 | room 1 8 = 0 | room 1 9 = 0
            open 0 true = false | room 0 4 = 1 | go 1 = 600
            room 0 5 = 500 | room 0 6 = 70 | room 0 7 = 330 | room 0 8 = 0 | room 0 9 = 0 | room 0 1 = 100
            room 1 5 = -500 | room 1 6 = 0 | room 1 7 = 0 | room 1 8 = 600 | room 1 9 = 60 | room 1 1 = 580
            open 0 false = true | go 1 = * | room 0 7 = 0
            room 2 0 =IOOBE | room -1 0 =IOOBE | room 0 10 =IAE | room 0 -1 =IAE | room 2 10 =IOOBE
            """);
        promise(8, """
            house "room 1 1;room 1 1;room 1 1;wall 0 1 5;wall 1 2 7;wall 1 0 9;" = 3
            wall 0 1 = 9 | wall 1 0 = 9 | wall 1 2 = 7 | wall 2 1 = 7 | wall 0 2 = 0 | wall 2 2 = 0
            wall 3 0 =IOOBE | wall 0 3 =IOOBE | wall -1 0 =IOOBE | wall 0 -1 =IOOBE
            """);
        promise(9, """
            house "room 10 200;room 10 200;radiator 1 3 10;radiator 0 2 99;radiator 0 0 1;slow 1 400;draught 2 5;" = 2
            radiator 0 0 = 1 | radiator 0 1 = 3 | radiator 0 2 = 10 | radiator 0 3 = 0 | radiator 0 4 = 0
            radiator 0 5 = 16 | radiator 0 6 = 16 | radiator 0 7 = 0 | radiator 0 8 = 0 | radiator 0 9 = 0
            radiator 0 10 = 0 | radiator 1 3 = 2 | radiator 1 4 = 400 | radiator 1 5 = 0 | radiator 2 3 = 3
            go 1 = 400 | radiator 0 7 = 100 | radiator 0 8 = 400 | radiator 0 9 = 400 | radiator 1 5 = 2
            radiator 3 0 =NSEE | radiator -1 0 =NSEE | radiator 0 11 =IAE | radiator 0 -1 =IAE | radiator 3 11 =NSEE
            """);
        promise(29, """
            house "room 9 100;room 9 0;room 9 0;wall 0 1 50;outer 0 50;window 0 50;outer 2 5;window 2 5;" = 3
            blame 0 = -1 | go 1 = 0 | blame 0 = 0 | blame 1 = -1 | blame 2 = -1
            new | house "room 9 100;room 9 0;wall 0 1 49;outer 0 50;window 0 50;" = 2
            open 0 true = false | go 1 = 0 | blame 0 = 1
            new | house "room 9 100;room 9 0;wall 0 1 49;outer 0 50;window 0 51;" = 2
            open 0 true = false | go 1 = 0 | blame 0 = 2 | blame 2 =IOOBE | blame -1 =IOOBE
            """);
        promise(43, """
            count 9 = -1 | count -1 = -1 | feed 0 0 0 0 0 = 20 | count 2 = 20
            house "room 1 1;room 1 1;radiator 0 0 1;radiator 0 0 1;radiator 0 0 1;snap 1 5;slow 1 5;draught 2 5;" = -9
            house 0 = -6
            house "room 1 1;room 1 1;radiator 0 0 1;radiator 0 0 1;radiator 0 0 1;snap 1 5;slow 1 5;draught 2 5;" = 2
            count 2 = 0 | count 5 = 2 | open 1 true = false | open 0 true = false | count 3 = 2 | air 3 true = false
            count 4 = 1 | log 1 0 0 = 1 | log 1 0 0 = 2 | count 0 = 2 | mark = 1 | count 1 = 1 | go 61 = * | count 6 = 1
            holiday 1 2 3 = 1 | count 7 = 1 | gauge 3 9 0 = -1 | gauge 0 0 7 = -1 | count 8 = 2 | gauge 3 9 -1 = 0 | count 8 = 1
            """);
    }

    private static void settings() {
        promise(10, """
            out 0 -4000 = 0 | out 0 4000 = -4000 | out 0 5 = 4000 | out 23 7 = 0 | out 24 0 =IAE | out -1 0 =IAE
            out 0 4001 =IAE | out 0 -4001 =IAE | out 0 0 = 5
            // each cut goes towards 0, and by the HOUR of the MINUTE
            house "room 1 0;outer 0 1;" = 1 | out 23 0 = 0 | out 0 150 = 0 | go 1 = 0 | room 0 6 = -1 | room 0 1 = 1
            out 0 0 = 150 | out 1 -1000 = 0 | go 59 = 0 | room 0 1 = 1 | go 1 = 0 | room 0 6 = 10 | room 0 1 = -9
            """);
        promise(11, """
            house "room 10 200;radiator 0 0 10;radiator 0 1 10;" = 1 | screw 0 8 = 16 | screw 0 1 = 8 | screw 0 8 = 1
            go 1 = * | radiator 0 7 = 33 | radiator 1 7 = 66 | radiator 0 6 = 8
            screw 0 0 =IAE | screw 0 17 =IAE | screw 2 5 =NSEE | screw -1 5 =NSEE | screw 2 0 =NSEE | radiator 0 6 = 8
            """);
        promise(12, """
            house "room 10 200;window 0 10;" = 1 | open 0 true = false | open 0 true = true | go 1 = 0 | room 0 1 = 1980
            open 0 false = true | open 0 false = false | go 1 = 0 | room 0 1 = 1980 | open 1 true =IOOBE | open -1 false =IOOBE
            """);
        promise(13, """
            air 3 true = false | air 3 true = true | air 4 true =IAE | air -1 true =IAE | count 4 = 1
            house "room 10 200;radiator 0 0 10;radiator 0 1 10;" = 1 | count 4 = 0 | air 0 true = false | go 1 = 400
            radiator 0 7 = 0 | radiator 0 8 = 0 | radiator 1 7 = 100 | radiator 1 8 = 400
            air 0 false = true | go 1 = * | radiator 0 7 = 50 | air 0 true = false | air 1 true = false | go 1 = 0
            """);
        promise(34, """
            water 0 900 = 0 | water 0 200 = 900 | water 0 0 = 200 | water 0 199 =IAE | water 0 901 =IAE | water 0 -1 =IAE
            water 24 0 =IAE | water -1 0 =IAE | water 5 300 = 0
            house "room 10 200;radiator 0 0 10;" = 1 | water 5 0 = 0 | water 0 900 = 0 | go 1 = 700 | water 0 0 = 900
            go 1 = 393 | water 1 200 = 0 | go 58 = * | go 1 = 0
            """);
        promise(37, """
            pump 0 =IAE | pump 1000 =IAE | pump 999 = 100 | pump 1 = 999
            house "room 10 200;radiator 0 0 10;pump 50;" = 1 | pump 200 = 50 | told 2 = 50 | go 1 = 800 | pump 1 = 200
            """);
    }

    private static void minutes() {
        promise(15, """
            house "room 10 200;radiator 0 0 10;" = 1 | go 0 = 0 | go 1 = 400 | room 0 1 = 2040 | go 1 = 396 | room 0 1 = 2079
            new | house "room 10 200;radiator 0 0 10;" = 1 | go 2 = 796 | go 1000 =IAE | go -1 =IAE | go 999 = *
            new | go 1000 =IAE | go 1 =ISE
            // POWER: each is cut by itself; what is cut to 0 does not make the boiler RUN
            new | house "room 10 200;radiator 0 0 10;radiator 0 0 5;boiler 100 600;" = 1 | go 1 = 99
            radiator 0 8 = 66 | radiator 1 8 = 33 | room 0 8 = 99 | room 0 1 = 2009
            new | house "room 10 200;radiator 0 0 10;radiator 0 0 5;boiler 300 600;" = 1 | go 1 = 300
            new | house "room 10 200;radiator 0 0 10;radiator 0 0 10;boiler 1 600;" = 1 | go 1 = 0 | clock 2 = 0 | clock 1 = 0
            // FLOW is cut; water that is colder than the ROOM takes nothing away
            new | house "room 10 200;radiator 0 0 1;radiator 0 0 1;radiator 0 0 1;pump 100;" = 1 | go 1 = 39
            radiator 0 7 = 33 | radiator 2 7 = 33 | radiator 2 8 = 13
            new | house "room 10 300;radiator 0 0 99;pump 999;boiler 9999 200;" = 1 | go 9 = 0 | room 0 1 = 3000
            // TEMPERATURES are cut by MASS towards 0, and end at both bounds
            new | house "room 3 0;sun 0 2 0 1;" = 1 | go 1 = 0 | room 0 1 = 0
            new | house "room 3 0;outer 0 5;" = 1 | out 0 -100 = 0 | go 1 = 0 | room 0 6 = 5 | room 0 1 = -1
            new | house "room 1 400;sun 0 999 0 24;" = 1 | go 6 = 0 | room 0 1 = 9994 | go 1 = 0 | room 0 1 = 9999
            new | house "room 1 400;outer 0 99;window 0 99;" = 1 | out 0 -4000 = 0 | open 0 true = false
            go 1 = 0 | room 0 1 = -9999 | room 0 6 = 7920 | room 0 7 = 7920
            // walls: all by what was ahead of the MINUTE, each cut by itself
            new | house "room 1 10;room 1 0;room 1 0;wall 0 1 1;wall 0 2 1;" = 3 | go 1 = 0 | room 0 5 = 2 | room 0 1 = 98
            room 1 1 = 1 | room 2 1 = 1 | go 1 = 0 | room 0 5 = 0 | room 0 1 = 98
            // sun from an HOUR up to another one
            new | house "room 1 0;sun 0 1 1 2;" = 1 | go 60 = 0 | room 0 1 = 0 | go 60 = 0 | room 0 1 = 60 | room 0 9 = 1
            go 60 = 0 | room 0 1 = 60 | room 0 9 = 0
            // a day has 24 HOURS
            new | house "room 1 0;sun 0 1 0 1;" = 1 | go 720 = 0 | go 720 = 0 | room 0 1 = 60 | clock 3 = 0 | go 1 = 0 | room 0 1 = 61
            """);
        promise(16, """
            house "room 10 100;radiator 0 0 10;" = 1 | go 1 = * | clock 0 = 1 | clock 1 = 1 | clock 2 = 1 | clock 3 = 0
            go 1 = * | clock 1 = 1 | air 0 true = false | go 1 = 0 | clock 1 = 1 | clock 2 = 0 | air 0 false = true
            go 1 = * | clock 1 = 2 | clock 2 = 1 | go 55 = * | clock 3 = 0 | go 1 = * | clock 0 = 60 | clock 3 = 1
            clock 4 =IAE | clock -1 =IAE
            """);
        promise(40, """
            house "room 10 100;radiator 0 0 10;" = 1 | wear 999 = 0 | go 3 = * | air 0 true = false | go 2 = 0
            air 0 false = true | go 4 = * | wear 0 = 7 | wear 5 = 17 | wear 999 = 2005 | wear 1000 =IAE | wear -1 =IAE
            """);
        // METERS end at 100,000,000: some 11,000 HEATS a MINUTE reach it in less than 9,000 MINUTES
        promise(9, """
            house "room 99 0;outer 0 99;radiator 0 0 99;pump 999;boiler 99999 900;" = 1
            """ + coldDay() + """
            go 999 = * | go 999 = * | go 999 = * | go 999 = * | go 999 = * | go 999 = * | go 999 = * | go 999 = * | go 999 = * | radiator 0 9 = 100000000
            error 0 50 = 0 | radiator 0 9 = 150000000 | error 0 -50 = 50 | radiator 0 9 = 50000000
            """);
    }

    private static String coldDay() {
        StringBuilder rows = new StringBuilder();
        for (int hour = 0; hour < 24; hour++) {
            rows.append("out ").append(hour).append(" -4000 = *\n");
        }
        return rows.toString();
    }

    private static void tapsMove() {
        // water of 200 tenths heats nothing here: the sun alone moves the TEMPERATURE
        promise(17, """
            house "room 1 207;radiator 0 0 1;snap 0 210;sun 0 9 0 24;boiler 1 200;" = 1 | radiator 0 5 = 0
            go 1 = 0 | room 0 1 = 2079 | radiator 0 5 = 16 | go 4 = 0 | room 0 1 = 2115 | radiator 0 5 = 16 | hunts 1 = 0
            go 1 = 0 | room 0 1 = 2124 | radiator 0 5 = 0 | radiator 0 10 = 1 | hunts 1 = 1 | hunts 2 = 0
            go 59 = 0 | clock 0 = 65 | hunts 1 = 1 | go 1 = 0 | hunts 1 = 0 | radiator 0 10 = 0
            hunts 0 =IAE | hunts 61 =IAE | hunts 60 = 0
            // a HOUSE anew: its first move is no TURN, whatever moved last ahead of it
            house "room 1 207;radiator 0 0 1;snap 0 210;sun 0 9 0 24;boiler 1 200;" = 1 | go 1 = 0 | radiator 0 5 = 16 | hunts 1 = 0
            // at both bounds it stays: not below GOAL less 20, not above GOAL and 20
            new | house "room 1 206;radiator 0 0 1;snap 0 210;sun 0 10 0 24;boiler 1 200;" = 1
            go 1 = 0 | radiator 0 5 = 16 | go 5 = 0 | room 0 1 = 2120 | radiator 0 5 = 16 | go 1 = 0 | radiator 0 5 = 0
            new | house "room 1 207;radiator 0 0 1;snap 0 210;sun 0 10 0 24;boiler 1 200;" = 1
            go 1 = 0 | room 0 1 = 2080 | radiator 0 5 = 0
            // slow: by 2, stays at GOAL, and bits are those of RADIATORS
            new | house "room 1 209;radiator 0 0 1;radiator 0 0 1;slow 1 210;sun 0 5 0 24;boiler 1 200;" = 1
            go 1 = 0 | radiator 1 5 = 2 | go 1 = 0 | room 0 1 = 2100 | radiator 1 5 = 2 | go 1 = 0 | radiator 1 5 = 0
            radiator 1 10 = 1 | hunts 1 = 2 | go 1 = 0 | radiator 1 5 = 0 | radiator 1 10 = 1
            new | house "room 1 0;radiator 0 0 1;slow 0 400;pump 1;" = 1 | go 7 = 0 | radiator 0 5 = 14 | go 1 = 0
            radiator 0 5 = 16 | go 1 = 0 | radiator 0 5 = 16 | radiator 0 10 = 0
            // draught: 300 less, while the window is open
            new | house "room 1 210;room 1 0;radiator 0 0 1;draught 0 210;radiator 0 0 1;snap 1 210;pump 1;" = 2
            go 1 = 0 | radiator 0 5 = 0 | open 1 true = false | go 1 = 0 | radiator 0 5 = 0 | open 0 true = false
            go 1 = 0 | radiator 0 5 = 16 | radiator 1 5 = 0 | open 0 false = true | go 1 = 0 | radiator 0 5 = 16
            // a TAP that is open by 2 lets 2 parts of the water through
            new | house "room 9 0;radiator 0 0 9;radiator 0 1 9;slow 0 400;" = 1 | go 2 = * | radiator 0 7 = 11 | radiator 1 7 = 88
            """);
    }

    private static void nightsAndHolidays() {
        String house = "new | house \"room 1 200;radiator 0 0 1;snap 0 210;pump 1;\" = 1\n";
        promise(14, house + "night 0 6 50 = 0 | go 1 = 0 | radiator 0 5 = 0 | night 0 6 5 = 50 | go 1 = 0 | radiator 0 5 = 16\n"
                + house + "night 22 6 50 = 0 | go 1 = 0 | radiator 0 5 = 0\n"
                + house + "night 6 22 50 = 0 | go 1 = 0 | radiator 0 5 = 16\n"
                + house + "night 23 0 50 = 0 | go 1 = 0 | radiator 0 5 = 16\n"
                + house + "night 3 3 50 = 0 | go 1 = 0 | radiator 0 5 = 0\n"
                + house + "night 1 2 50 = 0 | go 60 = 0 | radiator 0 5 = 16 | go 1 = 0 | radiator 0 5 = 0\n"
                + house + "night 0 1 50 = 0 | go 60 = 0 | radiator 0 5 = 0 | go 1 = 0 | radiator 0 5 = 16\n"
                + house + """
            night 24 0 0 =IAE | night -1 0 0 =IAE | night 0 24 0 =IAE | night 0 -1 0 =IAE | night 0 0 201 =IAE
            night 0 0 -1 =IAE | night 0 0 200 = 0 | night 23 23 0 = 200
            """);
        promise(36, house + "holiday 0 1 50 = 1 | go 1 = 0 | radiator 0 5 = 0 | go 1 = 0 | radiator 0 5 = 16\n"
                + house + "holiday 1 2 50 = 1 | go 1 = 0 | radiator 0 5 = 16 | go 1 = 0 | radiator 0 5 = 0 | go 1 = 0 | radiator 0 5 = 16\n"
                + house + "night 0 0 50 = 0 | holiday 0 9 1 = 1 | go 1 = 0 | radiator 0 5 = 0\n"
                + house + "night 0 0 1 = 0 | holiday 0 9 50 = 1 | holiday 0 9 1 = 2 | go 1 = 0 | radiator 0 5 = 0\n"
                + house + """
            holiday 5 5 0 =IAE | holiday 6 5 0 =IAE | holiday -1 5 0 =IAE | holiday 0 100000 0 =IAE | holiday 99999 99999 0 =IAE
            holiday 99999 100000 0 =IAE | holiday 2147483647 5 0 =IAE
            holiday 0 1 201 =IAE | holiday 0 1 -1 =IAE | count 7 = 0 | holiday 0 99999 200 = 1 | holiday 99998 99999 0 = 2
            holiday 0 1 1 = 3 | holiday 0 1 1 = 4 | holiday 0 1 1 = -1 | holiday 1 1 1 =IAE | count 7 = 4
            """);
    }

    private static void causes() {
        String one = "new | house \"room 1 200;radiator 0 0 1;snap 0 100;window 0 50;pump 10;\" = 1\n";
        StringBuilder rows = new StringBuilder();
        for (int i = 1; i <= 20; i++) {
            rows.append("log 240 0 -9999 = ").append(i).append('\n');
        }
        promise(18, one + "log 0 0 0 =IAE | log 241 0 0 =IAE | log 1 0 10000 =IAE | log 1 0 -10000 =IAE | log 1 1 0 =IOOBE\n"
                + "log 0 1 0 =IOOBE | log 1 -1 0 =IOOBE | count 0 = 0\n" + rows
                + "log 1 0 0 = -1 | log 0 0 0 =IAE | count 0 = 20\n"
                // rows may come in any order of MINUTES
                + one + "log 3 0 2000 = 1 | log 1 0 2000 = 2 | log 2 0 2000 = 3 | explained -1 -1 0 = true\n"
                + "log 1 0 2001 = 4 | explained -1 -1 0 = false | explained -1 -1 1 = true\n");
        promise(19, one + """
            explained -1 -1 0 = true | log 1 0 1004 = 1 | explained 10 30 0 = true | explained 30 10 0 = true
            explained 10 10 0 = false | explained 10 -1 1000 = true | explained 10 -1 999 = false | explained -1 30 4 = true
            explained 30 30 4 = true | explained 30 30 3 = false | explained -1 -1 9999 = true
            explained 1 -1 0 =IAE | explained -2 -1 0 =IAE | explained 11 -1 0 =IAE | explained 24 -1 0 =IAE
            explained 31 -1 0 =IAE | explained 40 -1 0 =IAE | explained 50 -1 0 =IAE | explained -1 1 0 =IAE
            explained 10 30 -1 =IAE | explained 10 30 10000 =IAE | explained 19 -1 0 =IAE | explained 39 -1 0 =IAE
            """ + one + """
            // a TAP that stays at 0 and at 16 stays at 16
            log 1 0 2004 = 1 | explained 0 10 0 = true | explained 10 0 0 = true | explained 0 -1 0 = false
            // from the beginning, whatever has gone by since; windows shut and no AIR then
            open 0 true = false | air 0 true = false | go 9 = 0 | explained 10 -1 0 = true
            // SCREWS, OUT, NIGHT, HOLIDAYS, WATER of HOURS and pump as they are
            pump 20 = 10 | explained 10 -1 0 = false | pump 10 = 20 | water 0 300 = 0 | explained 10 -1 0 = false
            water 0 0 = 300 | explained 10 -1 0 = true | out 0 1000 = 0 | explained 30 10 0 = false | explained 10 -1 0 = true
            new | house "room 1 200;radiator 0 0 1;snap 0 210;pump 10;" = 1 | log 2 0 2004 = 1 | explained -1 -1 0 = true
            night 0 0 90 = 0 | explained -1 -1 0 = false | night 0 0 0 = 90 | holiday 0 9 90 = 1 | explained -1 -1 0 = false
            // two RADIATORS: a SCREW parts the water otherwise
            new | house "room 1 200;room 1 200;radiator 0 0 9;radiator 1 1 9;" = 2 | log 1 0 2180 = 1 | explained -1 -1 0 = true
            screw 0 8 = 16 | explained -1 -1 0 = false | screw 1 8 = 16 | explained -1 -1 0 = true
            """);
        promise(20, one + """
            cause 0 0 = -1 | cause 0 1 = -1 | log 1 0 1004 = 1 | cause 0 0 = 10 | cause 0 1 = 30 | cause 4 0 = 30
            cause 4 1 = -1 | cause 996 0 = -1 | cause 995 0 = 30 | log 1 0 2000 = 2 | cause 0 0 = -2 | cause 0 1 = -2
            cause 10000 0 =IAE | cause -1 0 =IAE | cause 0 2 =IAE | cause 0 -1 =IAE
            // TAPS that SEE each other's ROOM
            new | house "room 1 100;room 1 200;radiator 0 0 1;radiator 1 1 1;snap 0 150;snap 1 150;pump 32;boiler 99999 900;" = 2
            log 2 0 1000 = 1 | log 2 1 2022 = 2 | cause 0 0 = 40 | cause 0 1 = -1
            // AIR in a PIPE, by the beginning
            new | house "room 1 200;room 1 200;radiator 0 2 9;radiator 1 1 9;" = 2 | log 1 1 2360 = 1 | cause 0 0 = 22 | cause 0 1 = -1
            // of two sets of two the first by the lesser one, then by the greater one
            new | house "room 1 200;room 1 200;radiator 0 0 1;radiator 1 0 1;snap 0 100;snap 1 100;pump 10;window 1 50;" = 2
            log 1 0 2002 = 1 | log 1 1 2002 = 2 | cause 0 0 = 10 | cause 0 1 = 11
            """ + exchangedTwice());
        promise(21, one + """
            things = 7
            house "room 1 1;room 1 1;radiator 0 0 1;radiator 0 0 1;radiator 0 0 1;snap 0 1;snap 2 1;" = 2 | things = 10
            house "room 1 1;room 1 1;radiator 0 0 1;radiator 0 0 1;radiator 0 0 1;snap 0 1;slow 1 1;snap 2 1;" = 2 | things = 14
            """ + "house \"" + "room 1 1;".repeat(8) + "radiator 0 0 1;".repeat(8) + eightTaps(100) + "\" = 8 | things = 35\n");
        promise(20, lastThings());
    }

    private static String eightTaps(int set) {
        StringBuilder taps = new StringBuilder();
        for (int k = 0; k < 8; k++) {
            taps.append("slow ").append(k).append(' ').append(set).append(';');
        }
        return taps.toString();
    }

    /** The last TAP SEES the cold ROOM of the one ahead by 46; with 37 the cold ROOM's window is open, too. */
    private static String lastThings() {
        String house = "new | house \"" + "room 1 200;".repeat(7) + "room 1 100;window 7 9;" + "radiator 0 0 1;".repeat(6)
                + "radiator 7 1 1;radiator 6 2 1;snap 6 150;snap 7 150;pump 32;boiler 99999 900;\" = 8\n";
        return house + "air 0 true = false | things = 17\n"
                // six RADIATORS without TAPS have 16 parts each; the last one opens by what it SEES
                + "mark = 1 | back = 0 | log 2 6 2002 = 1 | log 2 7 1000 = 2 | cause 0 0 = 46 | cause 0 1 = -1\n"
                + house + "log 2 6 2002 = 1 | log 1 7 910 = 2 | log 2 7 829 = 3 | cause 0 0 = 37 | cause 0 1 = 46\n"
                + "explained 46 37 0 = true | explained 37 -1 0 = false | explained 46 -1 0 = false\n";
    }

    /** Three TAPS: by 40, then 41, the last one SEES the first ROOM; the other way round the second one would. */
    private static String exchangedTwice() {
        return "new | house \"room 1 100;room 1 200;room 1 200;radiator 0 0 1;radiator 1 1 1;radiator 2 2 1;"
                + "snap 0 150;snap 1 150;snap 2 150;pump 32;boiler 99999 900;\" = 3\n"
                + "log 2 2 2022 = 1 | explained 40 41 0 = true | explained 41 40 0 = true | explained 40 40 0 = false\n"
                + onlyTheOtherWayRound();
    }

    /** A LOG that 41 and then 40 would explain, TAPS seeing ROOMS 2, 0, 1; the lesser comes first, so nothing does. */
    private static String onlyTheOtherWayRound() {
        return "new | house \"room 1 100;room 1 200;room 1 300;radiator 0 0 1;radiator 1 1 1;radiator 2 2 1;"
                + "snap 0 250;snap 1 150;snap 2 250;pump 32;boiler 99999 900;\" = 3\n"
                + "log 1 1 2000 = 1 | log 2 0 1000 = 2 | log 2 1 2011 = 3 | log 2 2 3009 = 4\n"
                + "explained 40 41 0 = false | explained 41 40 0 = false | cause 0 0 = -2 | cause 0 1 = -2\n";
    }

    private static void trials() {
        String two = "new | house \"room 50 100;room 50 100;radiator 0 0 10;radiator 1 1 10;\" = 2\n";
        promise(22, two + "go 180 = * | room 0 1 = @equal | room 1 1 = @equal\n" + two + """
            balanced 0 0 @equal = 16 | balanced 1 0 @equal = 16 | screw 1 8 = 16 | balanced 0 0 @equal = 8 | balanced 1 0 @equal = 8
            balanced 0 0 @equal+1 = -1 | balanced 0 0 0 = 16 | balanced 1 0 0 = 8
            // from the beginning, with windows shut and no AIR, OUT as told
            air 0 true = false | open 0 true = false | go 5 = * | out 0 -4000 = 0 | balanced 0 0 @equal = 8 | clock 0 = 5
            balanced 2 0 0 =NSEE | balanced -1 0 0 =NSEE | balanced 0 4001 0 =IAE | balanced 0 -4001 0 =IAE
            balanced 0 0 -1 =IAE | balanced 0 0 10000 =IAE | balanced 2 4001 0 =NSEE
            // NIGHT as it is
            new | house "room 50 100;radiator 0 0 10;snap 0 200;" = 1 | balanced 0 0 1500 = 16 | night 0 0 200 = 0
            balanced 0 0 1500 = -1
            // OUT is the told one all HOURS
            new | house "room 50 100;radiator 0 0 10;outer 0 50;" = 1 | go 180 = * | room 0 1 = @then | out 0 -4000 = 0
            balanced 0 0 @then = 16 | balanced 0 -1000 @then = -1
            """ + """
            // those behind the fourth stay as they are
            new | house "room 9 100;radiator 0 0 1;radiator 0 0 1;radiator 0 0 1;radiator 0 0 1;radiator 0 0 1;" = 1
            screw 4 3 = 16 | screw 3 2 = 16 | balanced 4 0 0 = 3 | balanced 3 0 0 = 4 | balanced 0 0 0 = 16 | balanced 4 0 9999 = -1
            """);
        // the farthest TURNING: all four from 1 to 16, for the fifth one takes its 16 parts
        String five = "new | house \"room 99 100;room 99 400;" + "radiator 0 0 20;".repeat(4) + "radiator 1 0 20;boiler 99999 900;\" = 2\n";
        promise(22, five + "go 180 = * | room 0 1 = @most\n" + five + """
            screw 0 1 = 16 | screw 1 1 = 16 | screw 2 1 = 16 | screw 3 1 = 16 | turning 0 @most = 60 | balanced 0 0 @most = 16
            balanced 3 0 @most = 16 | balanced 4 0 @most = 16 | turning 0 @most+1 = -1 | turning 0 0 = 12 | balanced 2 0 0 = 4
            """);
        promise(23, two + """
            turning 0 0 = 0 | screw 0 15 = 16 | screw 1 6 = 16 | turning 0 0 = 3 | balanced 0 0 0 = 16 | balanced 1 0 0 = 4 | turning 0 9999 = -1
            turning 4001 0 =IAE | turning -4001 0 =IAE | turning 0 -1 =IAE | turning 0 10000 =IAE
            new | turning 0 10000 =IAE | turning 0 0 =ISE | house "room 1 0;" = 1 | turning 0 9999 = 0
            """);
        promise(23, two + "go 180 = * | room 0 1 = @equal\n" + two + "screw 1 8 = 16 | turning 0 @equal = 8 | turning 0 @equal+1 = -1\n");
        promise(24, """
            house "room 10 200;radiator 0 0 10;room 10 0;" = 2 | mark = 1 | go 10 = * | room 0 1 = @ten | go 230 = * | room 0 1 = @last
            back = 0 | wake 0 0 2000 = 0 | wake 0 0 2001 = 10 | wake 0 0 @ten = 10 | wake 0 0 @ten+1 = 20 | clock 0 = 0
            wake 0 0 9999 = -1 | wake 0 0 @last = * | wake 4001 0 0 =IAE | wake 0 -4001 0 =IAE | wake 0 0 -1 =IAE
            wake 0 0 10000 =IAE
            // 240 MINUTES are the last that count; the greater one of two OUTS; OUT all HOURS
            new | house "room 99 0;radiator 0 0 10;pump 1;boiler 240 900;" = 1 | wake 0 0 1 = -1
            new | house "room 1 0;radiator 0 0 1;pump 1;boiler 1 900;sun 0 1 3 4;" = 1 | wake 0 0 60 = 240 | wake 0 0 61 = -1
            wake 0 0 59 = 240 | wake 0 0 50 = 230
            new | house "room 50 150;radiator 0 0 10;outer 0 10;" = 1 | out 0 -4000 = 0 | wake 0 0 1600 = @mild | wake -1000 -1000 1600 = @hard
            wake 0 -1000 1600 = @hard | wake -1000 0 1600 = @hard | wake 0 -4000 1900 = -1 | wake -4000 0 1900 = -1
            // without NIGHT and HOLIDAYS; with windows, AIR and SCREWS as they are
            new | house "room 10 200;radiator 0 0 10;snap 0 250;" = 1 | wake 0 0 2200 = 10 | night 0 0 200 = 0 | wake 0 0 2200 = 10
            holiday 0 999 200 = 1 | wake 0 0 2200 = 10 | go 20 = 0 | air 0 true = false | wake 0 0 2200 = -1
            """);
        promise(25, """
            house "room 10 200;radiator 0 0 10;snap 0 190;radiator 0 1 1;" = 1 | screw 1 1 = 16 | air 1 true = false
            wish 0 20 2 -1 = 400 | wish 0 20 2 0 = 40 | wish 0 20 1 -1 = 0 | wish 0 10 9 -1 = 0 | wish 0 200 0 0 = 0
            clock 0 = 0 | radiator 0 4 = 190 | wish 0 0 240 -1 = 0
            wish 2 0 0 0 =NSEE | wish -1 0 0 0 =NSEE | wish 0 0 0 1 =IOOBE | wish 0 0 0 -2 =IOOBE | wish 1 0 0 0 =IAE
            wish 0 201 0 0 =IAE | wish 0 -1 0 0 =IAE | wish 0 0 241 0 =IAE | wish 0 0 -1 0 =IAE | wish 2 0 0 1 =NSEE | wish 1 0 0 1 =IOOBE
            // with NIGHT as it is, from now on
            night 0 0 20 = 0 | wish 0 20 2 -1 = 0 | wish 0 40 2 -1 = 400
            // another one's ROOM gets less
            new | house "room 10 200;room 10 200;radiator 0 0 10;radiator 1 0 10;snap 0 190;" = 2 | wish 0 20 2 1 = -20
            """);
    }

    private static void bills() {
        promise(26, """
            house "room 10 199;radiator 0 0 10;radiator 0 0 1;pump 200;" = 1 | error 0 10 = 0 | error 0 -10 = 10 | go 1 = 441
            radiator 0 8 = 401 | radiator 0 9 = 361 | error 0 50 = -10 | radiator 0 9 = 601 | radiator 1 9 = 40
            error 0 51 =IAE | error 0 -51 =IAE | error 2 0 =NSEE | error -1 0 =NSEE | error 2 51 =NSEE | error 0 0 = 50
            words "meter*2+size" = 0 | part 0 = 812 | part 1 = 81 | words "all" = 0 | part 0 = 441 | error 0 -10 = 0 | part 1 = 401
            house "room 1 1;radiator 0 0 1;" = 1 | error 0 0 = 0
            """);
        promise(28, """
            house "room 1 0;radiator 0 0 1;radiator 0 0 2;radiator 0 0 3;" = 1 | pays 0 100 = 0 | words "1" = 0
            pays 0 100 = 34 | pays 1 100 = 33 | pays 2 100 = 33 | pays 0 101 = 34 | pays 1 101 = 34 | pays 2 101 = 33
            words "size" = 0 | pays 0 10 = 2 | pays 1 10 = 3 | pays 2 10 = 5 | pays 0 1000000 = 166667 | pays 1 1000000 = 333333
            pays 2 1000000 = 500000 | pays 0 0 = 0 | pays 0 1 = 0 | pays 1 1 = 0 | pays 2 1 = 1
            words "size-1" = 0 | pays 0 7 = 0 | pays 1 7 = 2 | pays 2 7 = 5 | words "0-size" = 0 | pays 2 7 = 0
            words "size*9999*9999/99" = 0 | pays 0 1000000 = 333334 | pays 1 1000000 = 333333
            pays 3 0 =NSEE | pays -1 0 =NSEE | pays 0 -1 =IAE | pays 0 1000001 =IAE | pays 3 -1 =NSEE
            """);
    }

    private static void diaries() {
        promise(30, """
            house "room 1 10;room 1 0;wall 0 1 1;outer 0 2;window 0 3;sun 1 1 0 1;radiator 1 0 1;pump 20;boiler 1 500;" = 2
            go 59 = * | diary 0 0 0 =IAE | count 6 = 0 | go 1 = * | count 6 = 1 | diary 1 0 3 = 60 | diary 0 1 0 =IAE
            new | house "room 1 0;sun 0 1 0 24;outer 0 50;window 0 10;" = 1 | go 10 = 0 | room 0 1 = 2
            // the least and the greatest are those behind MINUTES, not what was at first
            new | house "room 1 0;sun 0 10 0 1;" = 1 | go 60 = 0 | diary 0 0 0 = 10 | diary 0 0 1 = 600 | go 60 = 0
            diary 0 0 0 = 600 | diary 0 0 1 = 600 | diary 0 1 0 = 10 | diary 0 1 1 = 600
            new | house "room 1 0;room 99 100;wall 0 1 10;" = 2 | go 1 = 0 | room 0 5 = -100 | room 1 5 = 100
            new | house "room 99 100;room 99 0;wall 0 1 9;outer 0 9;window 0 9;" = 2 | open 0 true = false | go 20 = 0 | open 0 false = true
            go 40 = 0 | diary 0 0 2 = 20 | diary 1 0 2 = 0 | diary 0 0 4 = * | diary 0 0 3 = 0
            diary 0 0 7 =IAE | diary 0 0 -1 =IAE | diary 0 -1 0 =IAE | diary 2 0 0 =IOOBE | diary -1 0 0 =IOOBE | diary 2 9 9 =IOOBE
            """ + sums() + """
            // 48 HOURS stay
            new | house "room 1 0;sun 0 1 0 1;" = 1 | go 960 = 0 | go 960 = 0 | count 6 = 32 | go 960 = 0 | count 6 = 48
            diary 0 47 0 = 1 | diary 0 47 1 = 60 | diary 0 23 0 = 61 | go 60 = 0 | count 6 = 48 | diary 0 47 0 = 60
            diary 0 0 0 = 121 | diary 0 0 1 = 180 | diary 0 24 0 = 61 | diary 0 48 0 =IAE
            // a MARK keeps all of them
            new | house "room 1 0;sun 0 1 0 24;" = 1 | go 960 = 0 | go 960 = 0 | go 960 = 0 | mark = 1 | diary 0 0 0 = 2821
            go 960 = 0 | go 960 = 0 | go 960 = 0 | diary 0 47 1 = 2940 | back = 0 | diary 0 47 0 = 1 | diary 0 0 1 = 2880
            diary 0 30 0 = 1021 | diary 0 13 1 = 2100
            """);
        promise(31, """
            house "room 10 200;room 10 200;radiator 1 0 1;wall 0 1 5;outer 1 1;pump 1;" = 2 | cold 0 9999 -1 = 0 | go 60 = *
            cold 0 2000 -1 = 0 | cold 0 9999 -1 = 1 | cold 0 9999 2 = 1 | cold 0 9999 0 = 0 | cold 0 9999 1 = 0 | cold 0 -9999 -1 = 0
            cold 2 0 0 =IOOBE | cold -1 0 0 =IOOBE | cold 0 10000 0 =IAE | cold 0 -10000 0 =IAE | cold 0 0 4 =IAE | cold 0 0 -2 =IAE
            // by 1: it lost more through walls; by 0: not more
            new | house "room 50 200;room 50 0;radiator 0 0 10;wall 0 1 20;outer 0 19;" = 2 | out 0 0 = 0 | go 60 = *
            diary 0 0 4 = @w | diary 0 0 5 = @o | cold 0 9999 1 = 0 | cold 0 9999 0 = 1
            new | house "room 50 200;room 99 0;outer 1 99;radiator 0 0 10;wall 0 1 20;outer 0 9;" = 2 | go 60 = *
            cold 0 9999 1 = 1 | cold 0 9999 0 = 0 | cold 0 9999 -1 = 1
            new | house "room 50 200;room 50 200;radiator 0 0 10;radiator 1 0 10;wall 0 1 20;" = 2 | go 60 = * | cold 0 9999 0 = 1
            // by 3: open for 10 MINUTES or more, whatever else
            new | house "room 50 200;" = 1 | open 0 true = false | go 9 = 0 | open 0 false = true | go 51 = 0 | cold 0 2001 3 = 0
            cold 0 2001 2 = 1 | open 0 true = false | go 10 = 0 | open 0 false = true | go 50 = 0 | cold 0 2001 3 = 1 | cold 0 2001 -1 = 2
            cold 0 2000 -1 = 0
            """);
    }

    /** The sums of an HOUR are those of its MINUTES. */
    private static String sums() {
        String house = "house \"room 50 200;room 50 100;wall 0 1 9;outer 0 7;window 0 5;radiator 0 0 3;\" = 2\n";
        BoilerTaps x = new BoilerTaps();
        String text = house.substring(house.indexOf('"') + 1, house.lastIndexOf('"'));
        Script.feed(x, text);
        x.house(text.length());
        x.open(0, true);
        int[] sums = new int[10];
        for (int minute = 0; minute < 60; minute++) {
            x.go(1);
            for (int what = 5; what < 9; what++) {
                sums[what] += x.room(0, what);
            }
        }
        return "new | " + house + "open 0 true = false | go 60 = * | diary 0 0 2 = 60 | diary 0 0 3 = " + sums[8]
                + " | diary 0 0 4 = " + sums[5] + " | diary 0 0 5 = " + sums[6] + " | diary 0 0 6 = " + sums[7] + "\n";
    }

    private static void judgements() {
        // HOURS back: 0 got heat, 1 open by a MINUTE, 2 nothing; TEMPERATURES 2000 till the latest HOUR
        String house = "house \"room 50 200;radiator 0 0 30;\" = 1 | air 0 true = false | go 60 = 0 | open 0 true = false | go 1 = 0\n"
                + "open 0 false = true | go 59 = 0 | air 0 false = true | go 60 = *\n";
        StringBuilder rows = new StringBuilder(house);
        String[][] told = {
            {"under 0 201 1 2", "1"}, {"under 0 200 1 2", "0"}, {"under 0 200 0 0", "0"}, {"under 0 201 0 2", "0"},
            {"over 0 199 0 2", "1"}, {"over 0 200 0 0", "1"}, {"over 0 200 0 1", "0"}, {"over 0 400 0 0", "*"},
            {"opened 0 0 0", "0"}, {"opened 0 0 2", "1"}, {"opened 0 1 1", "1"}, {"opened 0 2 2", "0"},
            {"got 0 0 0", "1"}, {"got 0 0 2", "1"}, {"got 0 1 2", "0"}, {"got 0 2 3", "-1"}, {"got 1 0 0", "-1"},
            {"not got 0 0 0", "0"}, {"not got 0 1 1", "1"}, {"not got 1 0 0", "-1"}, {"not not got 0 0 0", "1"},
            {"got 0 0 0 and got 0 1 1", "0"}, {"got 0 0 0 and got 0 0 2", "1"}, {"got 0 0 0 and got 1 0 0", "-1"},
            {"got 0 1 1 and got 1 0 0", "0"}, {"got 1 0 0 and got 0 1 1", "0"}, {"got 0 1 1 or got 0 0 0", "1"},
            {"got 0 1 1 or got 0 2 2", "0"}, {"got 1 0 0 or got 0 1 1", "-1"}, {"got 1 0 0 or got 0 0 0", "1"},
            // and binds closer than or; not closer than and; brackets over all
            {"got 0 0 0 or got 0 0 0 and got 0 1 1", "1"}, {"[got 0 0 0 or got 0 0 0] and got 0 1 1", "0"},
            {"not got 0 1 1 and got 0 1 1", "0"}, {"not [got 0 1 1 and got 0 1 1]", "1"},
            {"not got 0 0 0 or got 0 0 0", "1"}, {"not [got 0 0 0 or got 0 0 0]", "0"},
        };
        for (String[] row : told) {
            rows.append("claim \"").append(row[0]).append("\" = 0 | judge = ").append(row[1]).append('\n');
        }
        promise(33, rows + """
            claim "got0 0 0and not[got0 0 0and not[got0 0 0and not[got0 1 1]]]" = 0 | judge = 1
            claim "@deep" = 0 | judge = 1
            claim "got 0 0 0" = 0 | judge = 1 | claim "got 0 0" = -9 | judge = 1 | air 0 true = false | go 60 = 0 | judge = 0
            house "room 1 0;" = 1 | judge = -1
            // one unit in an HOUR is something
            house "room 99 0;radiator 0 0 1;boiler 1 200;" = 1 | go 1 = 1 | air 0 true = false | go 59 = 0 | claim "got 0 0 0" = 0 | judge = 1
            """.replace("@deep", deepClaim()));
    }

    /** Six brackets, with two sides waiting at each level; only the innermost one says yes. */
    private static String deepClaim() {
        return "got0 1 1or got0 0 0and[".repeat(6) + "got0 1 1or got0 0 0and got0 0 0" + "]".repeat(6);
    }

    private static void pipes() {
        promise(35, """
            dead 4 =IAE | dead -1 =IAE | dead 3 = 0
            house "room 10 200;radiator 0 0 10;radiator 0 2 10;radiator 0 2 1;snap 2 0;" = 1 | go 7 = * | dead 0 = 0 | dead 1 = 7 | dead 2 = 0
            air 0 true = false | go 5 = * | dead 0 = 5 | dead 2 = 0 | dead 1 = 12 | air 0 false = true | go 1 = * | dead 0 = 0
            water 0 599 = 0 | go 3 = * | dead 0 = 3 | dead 1 = 16 | water 0 600 = 599 | go 1 = * | dead 0 = 0
            // water that flows is enough: it need not heat
            new | house "room 10 400;radiator 0 0 1;pump 1;" = 1 | go 1 = 0 | dead 0 = 0
            new | house "room 10 0;radiator 0 0 1;radiator 0 1 1;pump 1;" = 1 | go 2 = 0 | dead 0 = 2
            """);
        promise(38, """
            gauge 0 0 0 = -1 | gauge 0 0 999 = 0 | gauge 0 0 -1 = 999 | gauge 0 0 -1 = -1 | gauge 3 9 5 = -1 | count 8 = 1
            gauge 0 0 1000 =IAE | gauge 0 0 -2 =IAE | gauge 4 0 0 =IAE | gauge -1 0 0 =IAE | gauge 0 10 0 =IAE | gauge 0 -1 0 =IAE
            """);
        promise(39, """
            burst 0 0 = -1 | gauge 0 0 900 = -1 | burst 0 0 = -1 | gauge 0 3 840 = -1 | burst 0 0 = 0 | burst 0 19 = 0 | burst 0 20 = -1
            gauge 0 9 700 = -1 | burst 0 0 = 3 | burst 0 10 = 3 | burst 0 19 = 3 | burst 0 22 = 3 | burst 0 24 = -1
            gauge 0 3 877 = 840 | burst 0 7 = 3 | burst 0 29 = 3 | burst 0 30 = -1
            gauge 3 0 9 = -1 | gauge 3 1 8 = -1 | burst 3 0 = 0 | burst 3 1 = -1 | gauge 3 1 9 = 8 | burst 3 0 = -1 | gauge 3 0 -1 = 9
            // of alike ones the first; only next GAUGES; pressure that rises does not count; each PIPE by itself
            gauge 1 0 500 = -1 | gauge 1 1 400 = -1 | gauge 1 2 300 = -1 | burst 1 5 = 0 | gauge 1 1 600 = 400 | burst 1 5 = 1
            gauge 2 4 1 = -1 | gauge 2 5 999 = -1 | burst 2 0 = -1 | burst 3 0 = -1 | burst 4 0 =IAE | burst -1 0 =IAE
            burst 0 100 =IAE | burst 0 -1 =IAE | burst 0 99 = -1
            """);
    }

    private static void marks() {
        String house = "house \"room 10 200;window 0 9;outer 0 9;radiator 0 0 10;slow 0 210;radiator 0 1 10;draught 1 215;\" = 1\n";
        promise(41, """
            mark = 1 | mark = 2 | mark = 3 | mark = 4 | mark = -1 | count 1 = 4
            """ + house + "count 1 = 0 | mark = 1\n");
        promise(42, "back = -1\n" + house + """
            go 70 = * | mark = 1 | room 0 1 = @t | radiator 0 5 = @tap | radiator 0 9 = @m | radiator 0 10 = @turns | radiator 0 7 = @f
            radiator 1 5 = @other | clock 1 = @starts | wear 1 = @wear | dead 2 = 70 | room 0 6 = @lost | diary 0 0 0 = @least
            mark = 2 | go 50 = @next | diary 0 0 3 = @got
            open 0 true = * | air 1 true = * | screw 0 3 = 16 | out 5 77 = 0 | night 1 2 3 = 0 | holiday 1 2 3 = 1 | water 3 300 = 0 | pump 7 = 100
            error 0 9 = 0 | log 1 0 0 = 1 | gauge 0 0 5 = -1 | claim "got 0 0 0" = 0 | go 300 = *
            back = 1 | count 1 = 1 | clock 0 = 70 | room 0 1 = @t | radiator 0 5 = @tap | radiator 1 5 = @other | error 0 0 = 9
            radiator 0 9 = @m | radiator 0 10 = @turns | radiator 0 7 = @f | clock 1 = @starts | wear 1 = @wear | dead 2 = 70
            room 0 6 = @lost | count 6 = 1 | diary 0 0 0 = @least | count 3 = 0 | count 4 = 0 | radiator 0 6 = 16 | out 5 0 = 0
            night 0 0 0 = 0 | count 7 = 0 | water 3 0 = 0 | pump 100 = 100 | count 0 = 1 | count 8 = 1 | judge = *
            // what follows is what followed, in the HOUR that goes on too
            go 50 = @next | diary 0 0 3 = @got | back = 0 | clock 0 = 70 | back = -1
            // settings of before the MARK come again, too
            new
            """ + house + """
            screw 0 3 = 16 | out 5 77 = 0 | night 1 2 3 = 0 | holiday 1 2 3 = 1 | water 3 300 = 0 | pump 7 = 100 | open 0 true = false | air 2 true = false
            mark = 1 | screw 0 4 = 3 | out 5 0 = 77 | night 0 0 0 = 3 | holiday 1 2 3 = 2 | water 3 0 = 300 | pump 9 = 7 | open 0 false = true | air 2 false = true
            back = 0 | screw 0 4 = 3 | out 5 0 = 77 | night 0 0 0 = 3 | holiday 1 2 3 = 2 | water 3 0 = 300 | pump 9 = 7 | open 0 false = true | air 2 false = true
            """);
        // a HOUSE that is well read begins anew; one that is not changes nothing
        promise(3, house + """
            screw 0 3 = 16 | out 5 77 = 0 | night 1 2 3 = 0 | holiday 1 2 3 = 1 | water 3 300 = 0 | pump 7 = 100 | open 0 true = false | air 2 true = false
            error 0 5 = 0 | gauge 0 0 5 = -1 | log 1 0 0 = 1 | mark = 1 | words "size" = 0 | claim "got 0 0 0" = 0 | go 60 = *
            house "room" = -9 | count 0 = 1 | count 1 = 1 | count 3 = 1 | count 4 = 1 | count 6 = 1 | count 7 = 1 | count 8 = 1 | clock 0 = 60
            """ + house + """
            count 0 = 0 | count 1 = 0 | count 3 = 0 | count 4 = 0 | count 6 = 0 | count 7 = 0 | count 8 = 0 | clock 0 = 0 | clock 1 = 0
            screw 0 16 = 16 | out 5 0 = 0 | night 0 0 0 = 0 | water 3 0 = 0 | pump 100 = 100 | error 0 0 = 0 | gauge 0 0 -1 = -1 | wear 1 = 0
            radiator 0 9 = 0 | radiator 0 5 = 0 | radiator 0 7 = 0 | room 0 1 = 2000 | room 0 6 = 0 | dead 1 = 0 | part 0 = 10 | judge = -1
            air 0 true = false | air 1 true = false | go 60 = 0 | judge = 0
            """);
        // nothing of an older HOUSE comes through
        String rich = "house \"room 1 200;room 1 100;wall 0 1 9;outer 0 9;window 0 9;sun 0 9 0 24;radiator 0 1 9;radiator 1 1 9;snap 0 300;"
                + "slow 1 300;pump 7;boiler 77 777;\" = 2\n";
        String poor = "house \"room 1 200;room 1 100;radiator 0 0 1;\" = 2\n";
        promise(3, rich + "open 0 true = false | go 99 = *\n" + poor + poor + """
            wall 0 1 = 0 | room 0 2 = 0 | room 0 3 = 0 | room 0 9 = 0 | room 0 5 = 0 | room 0 7 = 0 | room 0 8 = 0 | told 1 = 1 | told 2 = 100
            told 3 = 9999 | told 4 = 600 | radiator 0 3 = 0 | radiator 0 4 = 0 | radiator 0 5 = 16 | radiator 0 8 = 0 | radiator 0 10 = 0
            clock 2 = 0 | count 5 = 0 | things = 6 | radiator 1 0 =NSEE | go 1 = 40 | room 0 9 = 0 | room 0 1 = 2040 | room 1 1 = 1000
            """);
        promise(3, rich + "open 0 true = false | go 99 = *\n" + rich
                + "room 0 9 = 0 | room 0 5 = 0 | room 0 7 = 0 | room 0 8 = 0 | radiator 0 8 = 0 | radiator 0 10 = 0 | clock 2 = 0\n");
    }
}
