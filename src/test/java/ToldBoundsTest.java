/** Each boundary that promises 1 to 9 and 28 name, with part I of the terms: what is told. */
public final class ToldBoundsTest {
    private static final String TEN_LINES = "l01;l02;l03;l04;l05;l12;l13;l14;l15;l23;";
    private static final String EIGHT_THINGS = "tt0;tt0;tt0;tt0;tt0;tt0;tt0;tt0;";
    private static final String NO_REFUSAL = " count(11)=0 count(12)=0 count(13)=0 count(14)=0 count(15)=0 count(16)=0 ";

    private static final Due DUE = new Due();
    private static final Script SCRIPT = new Script(DUE);

    public static void main(String[] args) {
        newObject();
        letters();
        houseLengths();
        lettersThatGoOn();
        endsThatLack();
        whichFaultIsTold();
        linesOfAHouse();
        curtainsOfAHouse();
        thingsOfAHouse();
        othersOfAHouse();
        movesOfAHouse();
        hoursOfAHouse();
        faultsComeToNothing();
        thing();
        line();
        curtain();
        move();
        pair();
        hour();
        count();
        DUE.end();
    }

    private static void newObject() {
        SCRIPT.run("1: no LINES", "count(1)=0 line(0,0)=-1 count(3)=0");
        SCRIPT.run("1: no THINGS", "count(0)=0 thing(0,0)=-1 count(4)=0");
        SCRIPT.run("1: six ROOMS", "seen(0,0)=0 seen(5,0)=0 seen(6,0)=-1 seen(-1,0)=-1");
        SCRIPT.run("1: all of six ROOMS", "tt0;tt1;tt2;tt3;tt4;tt5;=6 seen(0,0)=1 seen(5,0)=32");
        SCRIPT.run("1: HOUR 0 at first", "count(2)=0 hour(0)=0");
        SCRIPT.run("1: no sets, nothing in the ROW, no letters", "count(5)=0 count(6)=0 count(7)=0");
        SCRIPT.run("1: no REFUSALS", NO_REFUSAL);
        SCRIPT.run("1: no image", "on()=-3");
    }

    private static void letters() {
        SCRIPT.run("2: 0 is the least", "letter(0)=1 count(7)=1", NO_REFUSAL);
        SCRIPT.run("2: -4 below it", "letter(-1)=-4 letter(MIN)=-4 count(14)=2 count(16)=0 count(7)=0");
        SCRIPT.run("2: 255 is the greatest", "letter(255)=1 count(7)=1", NO_REFUSAL);
        SCRIPT.run("2: -6 above it", "letter(256)=-6 letter(MAX)=-6 count(16)=2 count(14)=0 count(7)=0");
        SCRIPT.run("2: 80 at most", "79*letter(48) count(7)=79 letter(48)=80", NO_REFUSAL, "count(7)=80");
        SCRIPT.run("2: -6 beyond 80", "80*letter(48) letter(48)=-6 letter(255)=-6 count(16)=2 count(7)=80");
        SCRIPT.run("2: -4 ahead of -6 when there are 80", "80*letter(48) letter(-1)=-4 count(14)=1 count(16)=0");
        SCRIPT.run("2: one refusal, above 255 when there are 80", "80*letter(48) letter(256)=-6 count(16)=1");
        SCRIPT.run("2: room again behind a house", "80*letter(48) house()=-1000 80*letter(48) count(7)=80");
        SCRIPT.run("2: 0 and 255 are held as such", "letter(104) letter(0)=2 house()=-1001 letter(255) house()=-1000");
    }

    private static void houseLengths() {
        SCRIPT.run("3: at least one STATEMENT", "house()=-1000 house()=-1000", NO_REFUSAL);
        SCRIPT.run("3: one STATEMENT", "h0;=1 count(7)=0");
        SCRIPT.run("3: 80 letters", "tt0;" + "m00;".repeat(19) + "=20");
        SCRIPT.run("3: the most STATEMENTS in 80 letters", "tt0;tt0;" + "h0;".repeat(24) + "=26");
        SCRIPT.run("3: 80 letters with the last one lacking", "h0;".repeat(26) + "h0=-1080");
        SCRIPT.run("3: 80 letters with the last one amiss", "tt0;" + "m00;".repeat(18) + "m00x=-1079");
        SCRIPT.run("3: the last STATEMENT of 80 letters", "tt0;" + "m00;".repeat(18) + "m06;=-2076");
        SCRIPT.run("3: the last place of a short STATEMENT", "tt0;tt0;" + "h0;".repeat(23) + "h8;=-2077");
        SCRIPT.run("3: the 81st letter is refused, the 80 stand",
                "+tt0;" + "m00;".repeat(19), "letter(120)=-6 house()=20");
    }

    /** Of every letter whether a house can go on with it behind others: if not, the fault is its place. */
    private static void goesOn(String ahead, String with) {
        for (int c = 0; c <= 255; c++) {
            MaynotBeSeen x = new MaynotBeSeen();
            int answer = Due.tell(x, ahead + (char) c);
            boolean goesOn = answer != -1000 - ahead.length();
            String what = "3: a house can go on with letter " + c + " behind \"" + ahead + "\"";
            DUE.is(what, goesOn ? 1 : 0, with.indexOf(c) >= 0 ? 1 : 0);
            DUE.is(what + ": letters behind it", x.count(7), 0);
        }
    }

    private static void lettersThatGoOn() {
        String digits = "0123456789";
        goesOn("", "lctomh");
        goesOn("h0;", "lctomh");
        goesOn("l99;", "lctomh");
        goesOn("t", "twsbnm");
        goesOn("tm", digits);
        goesOn("tt9", ";");
        for (String two : new String[] {"l", "o", "m"}) {
            goesOn(two, digits);
            goesOn(two + "9", digits);
            goesOn(two + "90", ";");
        }
        for (String one : new String[] {"c", "h"}) {
            goesOn(one, digits);
            goesOn(one + "9", ";");
        }
    }

    /** Where something lacks at the end, the place is the end, behind no, one and two statements. */
    private static void endsThatLack() {
        String[] parts = {"l", "l0", "l01", "c", "c0", "t", "tt", "tt0", "o", "o0", "o01", "m", "m0", "m00", "h", "h0"};
        for (String part : parts) {
            SCRIPT.run("3: lacks at the end", part + "=" + (-1000 - part.length()));
            SCRIPT.run("3: lacks at the end behind one", "h0;" + part + "=" + (-1003 - part.length()));
            SCRIPT.run("3: lacks at the end behind two", "tt0;h0;" + part + "=" + (-1007 - part.length()));
        }
    }

    private static void whichFaultIsTold() {
        SCRIPT.run("3: kind 1 ahead of kind 2, a letter", "l00;x=-1004");
        SCRIPT.run("3: kind 1 ahead of kind 2, the end", "l00;h9;l0=-1009");
        SCRIPT.run("3: the first of two of kind 1", "h0;lx1;x=-1004");
        SCRIPT.run("3: the first of three of kind 2", "h0;h8;l00;tt9;=-2003");
        SCRIPT.run("3: the first letter of the STATEMENT, not the one amiss", "h0;tt0;m06;=-2007");
        SCRIPT.run("3: what is ahead of it in the text counts", "tt0;l01;c0;m05;tt1;o01;=6");
        SCRIPT.run("3: what comes behind it does not: a LINE", "c0;l01;=-2000");
        SCRIPT.run("3: what comes behind it does not: a THING moved", "m00;tt0;=-2000");
        SCRIPT.run("3: what comes behind it does not: OTHERS", "tt0;o01;tt0;=-2004");
        SCRIPT.run("3: what an earlier HOUSE told counts", "tt0;l01;=2 m05;=1 c0;=1 tt0;=1 o01;=1");
        SCRIPT.run("3: what a HOUSE with a FAULT told does not", "tt0;l01;x=-1008 m05;=-2000 c0;=-2000");
    }

    private static void linesOfAHouse() {
        SCRIPT.run("3: the least and the greatest ROOM of a LINE", "l05;=1 line(0,0)=0 line(0,1)=5");
        SCRIPT.run("3: the greater ROOM first", "l50;=1 line(0,0)=0 line(0,1)=5");
        for (String text : new String[] {"l06;", "l60;", "l09;", "l90;", "l67;", "l66;"}) {
            SCRIPT.run("3: a ROOM of a LINE out of range", text + "=-2000", "count(1)=0");
        }
        for (int room = 0; room <= 5; room++) {
            SCRIPT.run("3: unlike ROOMS", "l" + room + room + ";=-2000 count(1)=0");
        }
        SCRIPT.run("3: a LINE that there is", "l01;l01;=-2004 l01;=1 l01;=-2000 count(1)=1");
        SCRIPT.run("3: a LINE that there is, turned", "l01;l10;=-2004 l10;=1 l01;=-2000 line(0,0)=0 line(0,1)=1");
        SCRIPT.run("3: a LINE that there is, with a CURTAIN", "l01;c0;l01;=-2007");
        SCRIPT.run("3: a LINE that there is, behind others of its ROOMS", "l01;l21;l10;=-2008 l10;l12;l01;=-2008 l01;l02;l10;=-2008");
        SCRIPT.run("3: a LINE of one ROOM that another LINE has", "l01;l02;l21;=3 count(1)=3");
        SCRIPT.run("3: 10 LINES at most", TEN_LINES + "=10 count(1)=10 l24;=-2000 count(1)=10");
        SCRIPT.run("3: an eleventh LINE in one text", TEN_LINES + "l24;=-2040 count(1)=0");
        SCRIPT.run("3: the ninth and the tenth in a HOUSE each", TEN_LINES.substring(0, 32), "l15;=1 l23;=1 l24;=-2000");
        SCRIPT.run("3: LINES as they come", "l45;l01; line(0,0)=4 line(0,1)=5 line(1,0)=0 line(1,1)=1");
        SCRIPT.run("3: no CURTAIN at first", "l01; line(0,2)=0 count(3)=0");
    }

    private static void curtainsOfAHouse() {
        SCRIPT.run("3: no LINES", "c0;=-2000 c9;=-2000");
        SCRIPT.run("3: the greatest LINE that there is, and one more", "l01;l12;c1;=3 c2;=-2000 count(3)=1");
        SCRIPT.run("3: LINES 0 and 9 of ten", TEN_LINES, "c0;c9;=2 line(0,2)=1 line(9,2)=1 line(8,2)=0 count(3)=2");
        SCRIPT.run("3: LINE 9 of nine", TEN_LINES.substring(0, 36), "c8;=1 c9;=-2000 count(3)=1");
        SCRIPT.run("3: a CURTAIN comes, or goes", "l01;c0;=2 line(0,2)=1 c0;=1 line(0,2)=0 c0;c0;=2 line(0,2)=0");
    }

    private static void thingsOfAHouse() {
        SCRIPT.run("3: the least and the greatest ROOM of a THING", "tt0;tt5;=2 thing(0,1)=0 thing(1,1)=5");
        SCRIPT.run("3: a ROOM of a THING out of range", "tt6;=-2000 tt9;=-2000 count(0)=0");
        SCRIPT.run("3: the KINDS", "tt0;tw0;ts0;tb0;tn0;tm0;=6",
                "thing(0,0)=0 thing(1,0)=1 thing(2,0)=2 thing(3,0)=3 thing(4,0)=4 thing(5,0)=5");
        SCRIPT.run("3: 8 THINGS at most", EIGHT_THINGS + "=8 count(0)=8 tt0;=-2000 count(0)=8");
        SCRIPT.run("3: a ninth THING in one text", EIGHT_THINGS + "tt0;=-2032 count(0)=0");
        SCRIPT.run("3: the eighth in a HOUSE of its own", EIGHT_THINGS.substring(4) + "=7 tm5;=1 tm5;=-2000 thing(7,0)=5");
        SCRIPT.run("3: no OTHER at first", "tt0;tt0; thing(0,2)=-9 thing(1,2)=-9 count(4)=0");
        SCRIPT.run("3: no more of LINES, but THINGS", TEN_LINES, "tt0;=1");
        SCRIPT.run("3: no more of THINGS, but LINES", EIGHT_THINGS, "l01;=1");
    }

    private static void othersOfAHouse() {
        SCRIPT.run("3: no THINGS ahead", "o01;=-2000");
        SCRIPT.run("3: one twice", "tt0;tt0;o00;=-2008 tt0;tt0;=2 o11;=-2000 o01;=1");
        SCRIPT.run("3: one twice that there is not", "tt0;o11;=-2004");
        SCRIPT.run("3: the second is not there", "tt0;tt0;o02;=-2008 tt0;tt0;=2 o09;=-2000");
        SCRIPT.run("3: the first is not there", "tt0;tt0;o20;=-2008 tt0;tt0;=2 o91;=-2000");
        SCRIPT.run("3: THINGS 0 and 7", EIGHT_THINGS, "o07;=1 thing(0,2)=7 thing(7,2)=0 o08;=-2000 o80;=-2000");
        SCRIPT.run("3: their OTHERS till then have none", "tt0;tt0;tt0;tt0;o01;o23;o12;=7",
                "thing(0,2)=-9 thing(1,2)=2 thing(2,2)=1 thing(3,2)=-9 count(4)=2");
        SCRIPT.run("3: one of them has an OTHER till then", "tt0;tt0;tt0;o01;o20;=5",
                "thing(0,2)=2 thing(1,2)=-9 thing(2,2)=0");
        SCRIPT.run("3: OTHERS as they are", "tt0;tt0;o01;o10;o01;=5 thing(0,2)=1 thing(1,2)=0 count(4)=2");
    }

    private static void movesOfAHouse() {
        SCRIPT.run("3: to the greatest ROOM and the least", "tt2;m05;=2 thing(0,1)=5 m00;=1 thing(0,1)=0");
        SCRIPT.run("3: to the ROOM where it is", "tt2;m02;=2 thing(0,1)=2");
        SCRIPT.run("3: to a ROOM out of range", "tt2;m06;=-2004 tt2;=1 m09;=-2000 thing(0,1)=2");
        SCRIPT.run("3: a THING that there is not", "m00;=-2000 tt0;m10;=-2004 tt0;=1 m95;=-2000");
        SCRIPT.run("3: THING 7 of eight, and 8", EIGHT_THINGS, "m75;=1 thing(7,1)=5 m85;=-2000");
    }

    private static void hoursOfAHouse() {
        SCRIPT.run("3: the greatest HOUR and the least", "h7;=1 count(2)=7 h0;=1 count(2)=0");
        SCRIPT.run("3: an HOUR out of range", "h3; h8;=-2000 h9;=-2000 count(2)=3");
    }

    private static void faultsComeToNothing() {
        String told = "h3;tt5;l12;c0;c1;m05;o02;o13;";
        String as = "count(0)=4 count(1)=1 count(2)=1 count(3)=0 count(4)=2 count(7)=0 "
                + "thing(0,1)=0 thing(0,2)=1 thing(1,2)=0 thing(2,2)=-9 line(0,2)=0";
        String start = "h1;l01;tt0;tt0;tt0;tt0;o01;";
        SCRIPT.run("3: without FAULT all of it comes", start, told + "=8 count(0)=5 count(1)=2 count(2)=3",
                "count(3)=2 count(4)=4 thing(0,1)=5 thing(0,2)=2 thing(1,2)=3 line(0,2)=1");
        SCRIPT.run("3: with one of kind 1 nothing", start, told + "x=-1029", as);
        SCRIPT.run("3: with one of kind 1 at the end nothing", start, told + "h=-1030", as);
        SCRIPT.run("3: with one of kind 2 nothing", start, told + "h8;=-2029", as);
        SCRIPT.run("3: a FAULT is no refusal", "x=-1000 house()=-1000 l0=-1002 l00;=-2000", NO_REFUSAL);
        SCRIPT.run("3: letters are no more, without FAULT", "h0; count(7)=0 letter(104)=1");
        SCRIPT.run("3: letters are no more, behind kind 1", "h0;x=-1003 count(7)=0 letter(104)=1");
        SCRIPT.run("3: letters are no more, behind kind 2", "h8;=-2000 count(7)=0 letter(104)=1");
    }

    private static void thing() {
        SCRIPT.run("4: no THINGS", "thing(0,0)=-1 thing(-1,0)=-1 count(11)=2");
        SCRIPT.run("4: the greatest THING, and one more", "tt0;tw5; thing(1,0)=1 thing(1,1)=5 thing(2,0)=-1");
        SCRIPT.run("4: THINGS 0 and 7 of eight", EIGHT_THINGS, "o07; thing(0,2)=7 thing(7,2)=0 thing(8,0)=-1");
        SCRIPT.run("4: far from any THING", "tt0; thing(-1,0)=-1 thing(MIN,0)=-1 thing(MAX,0)=-1 count(11)=3");
        SCRIPT.run("4: what 0 to 2", "tb4; thing(0,0)=3 thing(0,1)=4 thing(0,2)=-9", NO_REFUSAL);
        SCRIPT.run("4: what beyond", "tt0; thing(0,-1)=-2 thing(0,3)=-2 thing(0,MIN)=-2 thing(0,MAX)=-2 count(12)=4");
        SCRIPT.run("4: -1 ahead of -2", "tt0; thing(1,3)=-1 thing(-1,-1)=-1 count(11)=2 count(12)=0");
    }

    private static void line() {
        SCRIPT.run("5: no LINES", "line(0,0)=-1 line(-1,0)=-1 count(11)=2");
        SCRIPT.run("5: the greatest LINE, and one more", "l01;l45; line(1,0)=4 line(1,1)=5 line(2,0)=-1");
        SCRIPT.run("5: LINES 0 and 9 of ten", TEN_LINES, "line(0,1)=1 line(9,0)=2 line(9,1)=3 line(10,0)=-1");
        SCRIPT.run("5: far from any LINE", "l01; line(-1,0)=-1 line(MIN,0)=-1 line(MAX,0)=-1 count(11)=3");
        SCRIPT.run("5: what 0 to 2", "l51;c0; line(0,0)=1 line(0,1)=5 line(0,2)=1", NO_REFUSAL);
        SCRIPT.run("5: what beyond", "l01; line(0,-1)=-2 line(0,3)=-2 line(0,MIN)=-2 line(0,MAX)=-2 count(12)=4");
        SCRIPT.run("5: -1 ahead of -2", "l01; line(1,3)=-1 line(-1,-1)=-1 count(11)=2 count(12)=0");
    }

    private static void curtain() {
        SCRIPT.run("6: no LINES", "curtain(0)=-1 count(11)=1 count(3)=0");
        SCRIPT.run("6: comes, goes, comes", "l01; curtain(0)=1 line(0,2)=1 curtain(0)=0 line(0,2)=0 curtain(0)=1");
        SCRIPT.run("6: the greatest LINE, and one more", "l01;l12; curtain(1)=1 curtain(2)=-1 line(0,2)=0 count(3)=1");
        SCRIPT.run("6: LINES 0 and 9 of ten", TEN_LINES, "curtain(9)=1 curtain(0)=1 curtain(10)=-1 count(3)=2");
        SCRIPT.run("6: on all ten", TEN_LINES, "curtain(0)=1 curtain(1)=1 curtain(2)=1 curtain(3)=1 curtain(4)=1",
                "curtain(5)=1 curtain(6)=1 curtain(7)=1 curtain(8)=1 curtain(9)=1 count(3)=10");
        SCRIPT.run("6: far from any LINE", "l01; curtain(-1)=-1 curtain(32)=-1 curtain(-32)=-1 curtain(MIN)=-1",
                "curtain(MAX)=-1 count(11)=5 count(3)=0");
    }

    private static void move() {
        SCRIPT.run("7: no THINGS", "move(0,0)=-1 count(11)=1");
        SCRIPT.run("7: the greatest ROOM and the least", "tt3; move(0,5)=3 move(0,0)=5 move(0,0)=0 thing(0,1)=0");
        SCRIPT.run("7: beyond the ROOMS", "tt3; move(0,6)=-1 move(0,-1)=-1 move(0,MIN)=-1 move(0,MAX)=-1",
                "count(11)=4 thing(0,1)=3");
        SCRIPT.run("7: the greatest THING, and one more", "tt3;tt2; move(1,5)=2 move(2,5)=-1 thing(0,1)=3");
        SCRIPT.run("7: THING 7 of eight, and 8", EIGHT_THINGS, "move(7,5)=0 move(8,5)=-1 thing(7,1)=5");
        SCRIPT.run("7: far from any THING", "tt3; move(-1,0)=-1 move(MIN,0)=-1 move(MAX,0)=-1 count(11)=3");
        SCRIPT.run("7: either, counted once", "tt3; move(1,6)=-1 count(11)=1");
    }

    private static void pair() {
        SCRIPT.run("8: no THINGS", "pair(0,1)=-1 pair(0,0)=-1 count(11)=2");
        SCRIPT.run("8: none loses", "tt0;tt0; pair(1,0)=0 thing(0,2)=1 thing(1,2)=0 count(4)=2");
        SCRIPT.run("8: OTHERS as they are", "tt0;tt0;o01; pair(0,1)=0 pair(1,0)=0 thing(0,2)=1 thing(1,2)=0");
        SCRIPT.run("8: the OTHER of the first loses", "tt0;tt0;tt0;o01; pair(0,2)=1 thing(1,2)=-9 thing(2,2)=0");
        SCRIPT.run("8: the OTHER of the second loses", "tt0;tt0;tt0;o01; pair(2,0)=1 thing(1,2)=-9 thing(0,2)=2");
        SCRIPT.run("8: both lose", "tt0;tt0;tt0;tt0;o01;o23; pair(0,2)=2 thing(1,2)=-9 thing(3,2)=-9 count(4)=2");
        SCRIPT.run("8: one twice", "tt0;tt0;o01; pair(0,0)=-1 pair(1,1)=-1 count(11)=2 thing(0,2)=1 count(4)=2");
        SCRIPT.run("8: THINGS 0 and 7 of eight", EIGHT_THINGS, "pair(7,0)=0 thing(0,2)=7 pair(8,0)=-1 pair(0,8)=-1");
        SCRIPT.run("8: either is not there", "tt0;tt0;o01; pair(0,2)=-1 pair(2,0)=-1 pair(-1,0)=-1 pair(0,-1)=-1",
                "count(11)=4 thing(0,2)=1 thing(1,2)=0");
        SCRIPT.run("8: far from any THING", "tt0; pair(MIN,0)=-1 pair(0,MIN)=-1 pair(MAX,0)=-1 pair(0,MAX)=-1",
                "count(11)=4 count(4)=0");
        SCRIPT.run("8: both are not there, counted once", "tt0; pair(5,6)=-1 count(11)=1");
    }

    private static void hour() {
        SCRIPT.run("9: the greatest HOUR and the least", "hour(7)=0 hour(0)=7 hour(0)=0", NO_REFUSAL);
        SCRIPT.run("9: -4 below", "hour(5) hour(-1)=-4 hour(MIN)=-4 count(14)=2 count(16)=0 count(2)=5");
        SCRIPT.run("9: -6 above 7", "hour(5) hour(8)=-6 hour(MAX)=-6 count(16)=2 count(14)=0 count(2)=5");
    }

    private static void count() {
        SCRIPT.run("28: of nothing", "count(0)=0 count(1)=0 count(2)=0 count(3)=0 count(4)=0 count(5)=0 count(6)=0 count(7)=0");
        SCRIPT.run("28: of all that has room", TEN_LINES, EIGHT_THINGS, "o07;o16;o25;o34;h7;",
                "c0;c1;c2;c3;c4;c5;c6;c7;c8;c9; 8*together(255) 12*row(99) 80*letter(255)",
                "count(0)=8 count(1)=10 count(2)=7 count(3)=10 count(4)=8 count(5)=8 count(6)=12 count(7)=80", NO_REFUSAL);
        SCRIPT.run("28: another what", "count(-1)=-9 count(8)=-9 count(9)=-9 count(10)=-9 count(17)=-9 count(18)=-9",
                "count(MIN)=-9 count(MAX)=-9", NO_REFUSAL);
        SCRIPT.run("28: -1", "move(0,0)=-1 count(11)=1 count(12)=0 count(13)=0 count(14)=0 count(15)=0 count(16)=0");
        SCRIPT.run("28: -2", "moved(2)=-2 count(11)=0 count(12)=1 count(13)=0 count(14)=0 count(15)=0 count(16)=0");
        SCRIPT.run("28: -3", "on()=-3 count(11)=0 count(12)=0 count(13)=1 count(14)=0 count(15)=0 count(16)=0");
        SCRIPT.run("28: -4", "hour(-1)=-4 count(11)=0 count(12)=0 count(13)=0 count(14)=1 count(15)=0 count(16)=0");
        SCRIPT.run("28: -6", "hour(8)=-6 count(11)=0 count(12)=0 count(13)=0 count(14)=0 count(15)=0 count(16)=1");
        SCRIPT.run("28: as many as a run can refuse", "500*on() count(13)=500");
    }
}
