import java.math.BigInteger;

/** Each boundary that promises 14, 15, 17 to 21 and 23 to 25 name, with part II of the terms. */
public final class SearchBoundsTest {
    private static final String TEN_LINES = "l01;l02;l03;l04;l05;l12;l13;l14;l15;l23;";
    private static final String EIGHT_THINGS = "tt0;tt0;tt0;tt0;tt0;tt0;tt0;tt0;";
    private static final String SEVEN_THINGS = EIGHT_THINGS.substring(4);
    private static final String NO_REFUSAL = " count(11)=0 count(12)=0 count(13)=0 count(14)=0 count(15)=0 count(16)=0 ";
    /** THING 6 is BRIGHT beside the midst, THING 7 in the midst: but for 7 in ROOM 5 they are in one sight. */
    private static final String ONE_CURE = "l01;l02;l03;l04;l05;c4; tt3;tt3;tt3;tt3;tt3;tt3;tb1;tt0;o67; ";

    private static final Due DUE = new Due();
    private static final Script SCRIPT = new Script(DUE);

    public static void main(String[] args) {
        curtains();
        curtainsThatHang();
        moved();
        movedTwo();
        pairings();
        pairingsByNumber();
        together();
        may();
        ways();
        feast();
        feastRefused();
        row();
        judge();
        judgedByHours();
        movesThatCannotBe();
        seedsRefused();
        seeds();
        seedsThatWrap();
        seedsDrawn();
        DUE.end();
    }

    private static void curtains() {
        SCRIPT.run("14: no LINES, no THINGS", "curtains()=0", NO_REFUSAL);
        SCRIPT.run("14: no LINES, and a SIN", "tt0;tt0;o01; curtains()=-9");
        SCRIPT.run("14: none needed", TEN_LINES, "tt0;tt1; curtains()=0");
        SCRIPT.run("14: one LINE", "l01;tt0;tt1;o01; curtains()=1");
        SCRIPT.run("14: the tenth LINE alone", "l01;l02;l03;l12;l13;l23;l04;l14;l25;l45;", "tt4;tt5;o01; curtains()=512");
        SCRIPT.run("14: all ten LINES", TEN_LINES, "tw0;tw0;tw1;tw1;tw2;tw2;o01;o23;o45; curtains()=1023");
        SCRIPT.run("14: all but one of ten", TEN_LINES, "tw0;tw0;tw1;tw1;o01;o23; curtains()=511");
        SCRIPT.run("14: the fewest, not the least bits", "l01;l13;l12;tt0;tt2;tt3;tt2;o01;o23; curtains()=4");
        SCRIPT.run("14: of several the least bits", "l12;l01;tt0;tt2;o01; curtains()=1");
        SCRIPT.run("14: of several of two the least bits", "l01;l02;l13;l23;tt0;tt3;o01; curtains()=3");
        SCRIPT.run("14: none helps in all ten", TEN_LINES, "tt0;tt0;o01; curtains()=-9");
        SCRIPT.run("14: none helps against BRIGHT ones", "l01;tb0;tt1;o01; curtains()=-9");
        SCRIPT.run("14: as all is by then", "l01;tt0;tt2; curtains()=0 move(1,1) curtains()=0 pair(0,1) curtains()=1");
        SCRIPT.run("14: in the HOUR: day", "l01;tt0;tn1;o01; curtains()=0");
        SCRIPT.run("14: in the HOUR: night", "h6;l01;tt0;tn1;o01; curtains()=1");
        SCRIPT.run("14: in the HOUR: noon", "ts0;tt0;o01; hour(3) curtains()=0 hour(4) curtains()=-9 hour(5) curtains()=0");
    }

    private static void curtainsThatHang() {
        SCRIPT.run("14: on none else, though one hangs", "l01;l12;tt0;tt2;o01;c1; curtains()=1 line(0,2)=0 line(1,2)=1");
        SCRIPT.run("14: that one hangs is not enough", "l01;tt0;tt1;o01;c0; sins(0,0)=0 curtains()=1");
        SCRIPT.run("14: all ten hang, none is needed", TEN_LINES, "c0;c1;c2;c3;c4;c5;c6;c7;c8;c9; curtains()=0 count(3)=10");
    }

    private static void moved() {
        SCRIPT.run("15: -2", "moved(-1)=-2 moved(2)=-2 moved(MIN)=-2 moved(MAX)=-2 count(12)=4");
        SCRIPT.run("15: without THINGS", "moved(0)=0 moved(1)=-9", NO_REFUSAL);
        SCRIPT.run("15: none", "tt0;tt1;o01; moved(0)=0 moved(1)=-9");
        SCRIPT.run("15: one, the least answer", "tt1;tt1;o01; moved(0)=1 moved(1)=0 thing(0,1)=1");
        SCRIPT.run("15: one, the greatest answer", ONE_CURE, "moved(0)=1 moved(1)=75 thing(7,1)=0");
        SCRIPT.run("15: one, the last ROOM", "l01;l02;l03;l04;l05;c4;tt0;tt1;o01; moved(0)=1 moved(1)=5");
        SCRIPT.run("15: one, the second THING of a pair", "l01;l02;l03;l04;l05;c4;tb1;tt0;o01; moved(0)=1 moved(1)=15");
        SCRIPT.run("15: two pairs, no first", "tt0;tt0;tt0;tt0;o01;o23; moved(0)=2 moved(1)=-9");
        SCRIPT.run("15: three are more than two", "tt0;tt0;tt0;tt0;tt0;tt0;o01;o23;o45; moved(0)=-9 moved(1)=-9");
        SCRIPT.run("15: three, the pairs crosswise", "tt0;tt0;tt0;tt0;tt0;tt0;o03;o14;o25; moved(0)=-9 moved(1)=-9");
        SCRIPT.run("15: all eight in SINS", EIGHT_THINGS, "o01;o23;o45;o67; moved(0)=-9 moved(1)=-9");
        SCRIPT.run("15: none helps", "l01;l02;l03;l04;l05;tt0;tt0;o01; moved(0)=-9 moved(1)=-9");
        SCRIPT.run("15: as all is by then", "tt0;tt1;tt0;tt0; pair(0,1) moved(0)=0 move(1,0) moved(0)=1 moved(1)=1",
                "pair(2,3) moved(0)=2 moved(1)=-9 pair(0,2) moved(0)=1");
        SCRIPT.run("15: in the HOUR", "tt0;tn0;o01; hour(5) moved(0)=0 moved(1)=-9 hour(6) moved(0)=1 moved(1)=1");
        SCRIPT.run("15: in the HOUR: noon", "tt0;ts0;o01; hour(3) moved(0)=0 hour(4) moved(0)=1 hour(5) moved(0)=0");
    }

    private static void movedTwo() {
        SCRIPT.run("15: two, the last pair's only cure among them", ONE_CURE, "m45;m55;o45; moved(0)=2 moved(1)=-9");
        SCRIPT.run("15: two, each to the least ROOM", "l12;l13;l14;l15;tt1;tt1;tt1;tt1;o01;o23; moved(0)=2 moved(1)=-9");
        SCRIPT.run("15: two, each to the greatest ROOM", "l01;l02;l03;l04;tt0;tt0;tt0;tt0;o01;o23; moved(0)=2 moved(1)=-9");
        SCRIPT.run("15: both of one pair", "l12;l20;l03;l34;l05;tt0;tt0;o01; moved(0)=2 moved(1)=-9 thing(0,1)=0");
        SCRIPT.run("15: two are asked for, one is told", "tt0;tt0;tt0;tt1;o01;o23; moved(0)=1 moved(1)=1");
    }

    private static void pairings() {
        SCRIPT.run("17: -2", "pairings(-1)=-2 pairings(2)=-2 pairings(MIN)=-2 pairings(MAX)=-2 count(12)=4");
        SCRIPT.run("17: 1 without THINGS, no first", "pairings(0)=1 pairings(1)=-9", NO_REFUSAL);
        SCRIPT.run("17: one THING", "tw0; pairings(0)=0 pairings(1)=-9");
        SCRIPT.run("17: three THINGS", "tw0;tw0;tw0; pairings(0)=0 pairings(1)=-9");
        SCRIPT.run("17: five THINGS", "tw0;tw0;tw0;tw0;tw0; pairings(0)=0 pairings(1)=-9");
        SCRIPT.run("17: seven THINGS", "tw0;tw0;tw0;tw0;tw0;tw0;tw0; pairings(0)=0 pairings(1)=-9");
        SCRIPT.run("17: two THINGS", "tw0;tw0; pairings(0)=1 pairings(1)=1");
        SCRIPT.run("17: four THINGS", "tw0;tw0;tw0;tw0; pairings(0)=3 pairings(1)=1");
        SCRIPT.run("17: six THINGS", "tw0;tw0;tw0;tw0;tw0;tw0; pairings(0)=15 pairings(1)=1");
        SCRIPT.run("17: eight THINGS", "tw0;tw0;tw0;tw0;tw0;tw0;tw0;tw0; pairings(0)=105 pairings(1)=1");
    }

    private static void pairingsByNumber() {
        SCRIPT.run("17: no way", "tt0;tt0; pairings(0)=0 pairings(1)=-9");
        SCRIPT.run("17: no way for the last two", "tt0;tt1;tt5;tt5;tt5;tt5; pairings(0)=0 pairings(1)=-9");
        SCRIPT.run("17: 7 is the only OTHER of 0", "l01;l02;c0;c1;tb0;tt1;tt2;tt1;tt2;tt1;tt2;tt4; pairings(0)=6 pairings(1)=7");
        SCRIPT.run("17: 0 and 1 could be, but not the rest", "tt0;tt1;tt2;tt2; pairings(0)=2 pairings(1)=2");
        SCRIPT.run("17: OTHERS that are do not count, and stay", "tw0;tw0;tw0;tw0;o03; pairings(0)=3 pairings(1)=1 thing(0,2)=3");
        SCRIPT.run("17: in the HOUR: night", "tt0;tn0; hour(5) pairings(0)=1 pairings(1)=1 hour(6) pairings(0)=0 pairings(1)=-9");
        SCRIPT.run("17: in the HOUR: noon", "tt0;ts0; hour(3) pairings(0)=1 hour(4) pairings(0)=0 hour(5) pairings(0)=1");
        SCRIPT.run("17: sets do not count", "tw0;tw0; together(3)=1 pairings(0)=1 pairings(1)=1");
    }

    private static void together() {
        SCRIPT.run("18: without THINGS", "together(0)=1 together(1)=-1 together(-1)=-1 count(11)=2 count(5)=1");
        SCRIPT.run("18: the greatest THING, and one more", "tt0;tt0; together(2)=1 together(4)=-1 together(6)=-1 count(11)=2");
        SCRIPT.run("18: THING 7 of eight, and 8", EIGHT_THINGS, "together(128)=1 together(255)=2 together(256)=-1 count(11)=1");
        SCRIPT.run("18: the sign's bit and all bits", EIGHT_THINGS, "together(MIN)=-1 together(MAX)=-1 together(-1)=-1 count(11)=3");
        SCRIPT.run("18: 8 sets", "7*together(0) together(0)=8", NO_REFUSAL, "count(5)=8");
        SCRIPT.run("18: -6 beyond 8 sets", "8*together(0) together(0)=-6 count(16)=1 count(5)=8");
        SCRIPT.run("18: -1 ahead of -6", "8*together(0) together(1)=-1 count(11)=1 count(16)=0");
        SCRIPT.run("18: a set that there is", "tt0;tt0; together(3)=1 together(3)=2 count(5)=2");
    }

    private static void may() {
        SCRIPT.run("19: no THINGS", "may(0)=-1 count(11)=1");
        SCRIPT.run("19: one more than there are", "tt0;tt0; may(1)=1 may(2)=-1 may(-1)=-1 count(11)=2");
        SCRIPT.run("19: one more than eight", EIGHT_THINGS, "may(0)=254 may(7)=127 may(8)=-1 count(11)=1");
        SCRIPT.run("19: far from any THING", "tt0; may(MIN)=-1 may(MAX)=-1 count(11)=2");
        SCRIPT.run("19: an odd number", "tt0;tt1;tt2; may(0)=0 may(2)=0", NO_REFUSAL);
        SCRIPT.run("19: one", "tt0; may(0)=0");
        SCRIPT.run("19: a set of all", EIGHT_THINGS, "together(255)=1 may(0)=0 may(7)=0");
        SCRIPT.run("19: the greatest alone", EIGHT_THINGS, "together(127)=1 may(0)=0 may(7)=0");
        SCRIPT.run("19: only in a way to give all", "tt0;tt0;tt0;tt0; together(12)=1 may(0)=12 may(1)=12 may(2)=3 may(3)=3");
        SCRIPT.run("19: it has an OTHER, and SINS", "tt0;tt0;o01; may(0)=2");
    }

    private static void ways() {
        SCRIPT.run("20: without THINGS", "ways()=1 together(0)=1 ways()=1", NO_REFUSAL);
        SCRIPT.run("20: odd numbers", "tt0; ways()=0 tt0;tt0; ways()=0 tt0;tt0; ways()=0 tt0;tt0; ways()=0");
        SCRIPT.run("20: even numbers", "tt0;tt0; ways()=1 tt0;tt0; ways()=3 tt0;tt0; ways()=15 tt0;tt0; ways()=105");
        SCRIPT.run("20: sets of none and of one", EIGHT_THINGS, "together(0)=1 together(1)=2 together(128)=3 ways()=105");
        SCRIPT.run("20: a set of two", EIGHT_THINGS, "together(129)=1 ways()=90");
        SCRIPT.run("20: a set of four, and of five", EIGHT_THINGS, "together(15)=1 ways()=24 together(31)=2 ways()=0");
        SCRIPT.run("20: a set of all", EIGHT_THINGS, "together(255)=1 ways()=0");
        SCRIPT.run("20: the first set and the eighth", "tt0;tt0;tt0;tt0; together(3)=1 6*together(0) together(9)=8 ways()=1");
        SCRIPT.run("20: a set that is told behind eight does not count", "tt0;tt0; 8*together(0) together(3)=-6 ways()=1");
        SCRIPT.run("20: a set with bits of none does not count", "tt0;tt0; together(7)=-1 ways()=1");
        SCRIPT.run("20: THINGS that come behind the sets", "tt0;tt0; together(3)=1 ways()=0 tt0;tt0; ways()=2");
        SCRIPT.run("20: what is seen does not count", "tt0;tt0;o01; sins(0,0)=1 ways()=1");
    }

    private static void feast() {
        SCRIPT.run("21: without THINGS", "feast(0,0)=1 feast(0,1)=-9 feast(5,0)=1 feast(5,1)=-9", NO_REFUSAL);
        SCRIPT.run("21: one THING", "tt0; feast(0,0)=1 feast(0,1)=0 feast(5,0)=1 feast(5,1)=0");
        SCRIPT.run("21: 7 at most", SEVEN_THINGS, "feast(0,0)=5040 feast(0,1)=0 feast(5,0)=5040", NO_REFUSAL);
        SCRIPT.run("21: a SIN ahead of the first", "l01;tt0;tw1;o01; feast(5,0)=0 feast(5,1)=-9");
        SCRIPT.run("21: a SIN behind all", "tt0;tt1;o01; feast(2,0)=0 feast(2,1)=-9");
        SCRIPT.run("21: a SIN between", "l13;l23;c1;tb0;tw1;o01; feast(2,0)=1 feast(2,1)=1");
        SCRIPT.run("21: a SIN between, unless 3 to 5 go ahead", "l13;l23;c1;tb0;tb0;tb0;tw1;tw1;tw1;o03;o14;o25;",
                "feast(2,0)=90 feast(2,1)=3 tt5; feast(2,0)=630 feast(2,1)=3");
        SCRIPT.run("21: in the HOUR: night", "tt0;tn1;o01; hour(5) feast(2,0)=2 hour(6) feast(2,0)=0 feast(2,1)=-9");
        SCRIPT.run("21: in the HOUR: noon", "tt0;ts1;o01; hour(3) feast(2,0)=2 hour(4) feast(2,0)=0 hour(5) feast(2,0)=2");
        SCRIPT.run("21: as all is by then", "tt0;tt1;tt0; feast(2,0)=6 pair(0,1) feast(2,0)=0 image() on() move(1,2) feast(1,0)=0");
        SCRIPT.run("21: without THINGS, behind one with some", "image()=0 tt0;tt0; feast(0,0)=2 on()=0 feast(0,0)=1 feast(0,1)=-9");
        SCRIPT.run("21: nothing is carried", "tt0;tw1;o01; feast(5,0)=2 thing(0,1)=0 thing(1,1)=1");
    }

    private static void feastRefused() {
        SCRIPT.run("21: -3", EIGHT_THINGS, "feast(0,0)=-3 feast(5,1)=-3 count(13)=2");
        SCRIPT.run("21: -1", "feast(-1,0)=-1 feast(6,0)=-1 feast(MIN,0)=-1 feast(MAX,0)=-1 count(11)=4");
        SCRIPT.run("21: -2", "feast(0,-1)=-2 feast(5,2)=-2 feast(0,MIN)=-2 feast(0,MAX)=-2 count(12)=4");
        SCRIPT.run("21: -1 ahead of -2", "feast(6,2)=-1 feast(-1,-1)=-1 count(11)=2 count(12)=0");
        SCRIPT.run("21: -1 ahead of -3", EIGHT_THINGS, "feast(6,0)=-1 count(11)=1 count(13)=0");
        SCRIPT.run("21: -2 ahead of -3", EIGHT_THINGS, "feast(0,2)=-2 count(12)=1 count(13)=0");
        SCRIPT.run("21: -1 ahead of both", EIGHT_THINGS, "feast(6,2)=-1 count(11)=1 count(12)=0 count(13)=0");
    }

    private static void row() {
        SCRIPT.run("23: 0 is the least", "row(0)=1", NO_REFUSAL);
        SCRIPT.run("23: -4 below it", "row(-1)=-4 row(MIN)=-4 count(14)=2 count(16)=0 count(6)=0");
        SCRIPT.run("23: 99 is the greatest", "row(99)=1", NO_REFUSAL);
        SCRIPT.run("23: -6 above it", "row(100)=-6 row(MAX)=-6 count(16)=2 count(14)=0 count(6)=0");
        SCRIPT.run("23: 12 at most", "11*row(0) row(0)=12 row(0)=-6 count(16)=1 count(6)=12");
        SCRIPT.run("23: -4 ahead of -6 when there are 12", "12*row(0) row(-1)=-4 count(14)=1 count(16)=0");
        SCRIPT.run("23: one refusal, above 99 when there are 12", "12*row(0) row(100)=-6 count(16)=1");
        SCRIPT.run("23: room again when it is judged", "12*row(0) judge()=0 row(0)=1 count(6)=1");
    }

    private static void judge() {
        SCRIPT.run("24: nothing in the ROW", "judge()=-9 count(6)=0", NO_REFUSAL);
        SCRIPT.run("24: nothing in the ROW, and a SIN", "tt0;tt0;o01; judge()=-9");
        SCRIPT.run("24: the first of all", "tt0;tt1;o01; row(1) row(2) judge()=0 count(6)=0");
        SCRIPT.run("24: the last of 12", "tt0;tt1;o01; 11*row(2) row(1) judge()=11 count(6)=0");
        SCRIPT.run("24: none of 12", "tt0;tt1;o01; 12*row(2) judge()=-9 count(6)=0");
        SCRIPT.run("24: none is left for the next", "tt0;tt1;o01; row(1) judge()=0 judge()=-9 row(2) judge()=-9");
        SCRIPT.run("24: a SIN ahead that the first ends", "tt0;tt0;o01; row(5) judge()=-9");
        SCRIPT.run("24: a SIN ahead that the first leaves", "tt0;tt0;tt0;o01; row(25) row(5) judge()=0");
        SCRIPT.run("24: a SIN behind the second, by both", "tt0;tt1;o01; row(2) row(12) row(0) judge()=1");
        SCRIPT.run("24: as all is by then", "tt0;tt1;o01; row(1) judge()=0 row(1) move(1,4) judge()=-9");
        SCRIPT.run("24: nothing is moved", "tt0;tt1;o01; row(2) row(13) judge()=-9 thing(0,1)=0 thing(1,1)=1");
    }

    private static void judgedByHours() {
        String house = "tt0;tn0;o01;tt5; ";
        SCRIPT.run("24: in HOUR 0, whatever HOUR it is", "h6;" + house, "row(25) judge()=-9 count(2)=6");
        SCRIPT.run("24: up to HOUR 5 by day", house, "6*row(25) judge()=-9");
        SCRIPT.run("24: the seventh in HOUR 6", house, "7*row(25) judge()=6");
        SCRIPT.run("24: the eighth in HOUR 7", house, "7*row(5) row(0) judge()=7");
        SCRIPT.run("24: the ninth in HOUR 7 too", house, "8*row(5) row(0) judge()=8");
        SCRIPT.run("24: the twelfth in HOUR 7 too", house, "11*row(5) row(0) judge()=11");
        SCRIPT.run("24: the fifth at noon", "tt0;ts0;o01;tt5;", "4*row(25) judge()=-9 5*row(25) judge()=4");
        SCRIPT.run("24: none but the fifth at noon", "tt0;ts0;o01;tt5;", "4*row(25) row(5) 7*row(0) judge()=-9");
    }

    private static void movesThatCannotBe() {
        SCRIPT.run("24: without THINGS", "row(0) judge()=0");
        SCRIPT.run("24: the greatest THING, and one more", "tt0;tt0; row(10) judge()=-9 row(20) judge()=0");
        SCRIPT.run("24: THING 7 of eight, and 8", EIGHT_THINGS, "row(75) judge()=-9 row(70) row(80) judge()=1 row(99) judge()=0");
        SCRIPT.run("24: the greatest ROOM, and one more", "tt0; row(5) judge()=-9 row(6) judge()=0 row(5) row(9) judge()=1");
        SCRIPT.run("24: to the ROOM where it is", "tt3; row(3) judge()=-9");
        SCRIPT.run("24: the first that can't be of two", "tt0; row(5) row(7) row(10) judge()=1");
        SCRIPT.run("24: one that can't be ahead of a SIN", "tt0;tt1;o01; row(6) row(1) judge()=0");
        SCRIPT.run("24: a SIN ahead of one that can't be", "tt0;tt1;o01; row(1) row(6) judge()=0");
        SCRIPT.run("24: the last of 12 can't be", "tt0; 11*row(0) row(6) judge()=11");
        SCRIPT.run("24: one that can't be is no refusal", "row(99) judge()=0", NO_REFUSAL);
    }

    private static void seedsRefused() {
        SCRIPT.run("25: -4", "tt0; seeds(0,0)=-4 seeds(-1,0)=-4 seeds(MIN,0)=-4 count(14)=3 count(16)=0");
        SCRIPT.run("25: -6 above 30", "tt0; seeds(31,0)=-6 seeds(MAX,0)=-6 count(16)=2 count(14)=0");
        SCRIPT.run("25: -3", "seeds(1,0)=-3 seeds(30,MAX)=-3 count(13)=2");
        SCRIPT.run("25: -4 and -6 ahead of -3", "seeds(0,0)=-4 seeds(31,0)=-6 count(13)=0 count(14)=1 count(16)=1");
    }

    private static void seeds() {
        String star = "l01;l02;l03;l04;l05;";
        SCRIPT.run("25: 1 is the least, 30 the greatest", star, "tt0;tt0;o01;",
                "seeds(1,0)=1 seeds(2,0)=2 seeds(29,0)=29 seeds(30,0)=30", NO_REFUSAL);
        SCRIPT.run("25: behind each without a SIN", "tt0;tt0; seeds(1,0)=0 seeds(30,0)=0");
        SCRIPT.run("25: one THING", "tt0; seeds(1,5)=0 seeds(30,5)=0 seeds(30,MIN)=0", NO_REFUSAL);
        SCRIPT.run("25: in the HOUR: night", star, "tt0;tn0;o01; hour(5) seeds(30,0)=0 hour(6) seeds(30,0)=30");
        SCRIPT.run("25: in the HOUR: noon", "tt0;ts0;tt0;o01; seeds(30,9)=0 hour(4) seeds(1,0)=1 hour(5) seeds(30,9)=0");
        SCRIPT.run("25: as all is by then", "tt3;tt0;o01; seeds(1,0)=1 move(0,4) seeds(1,0)=0");
        SCRIPT.run("25: in mind", "tt3;tt0;o01; seeds(1,0)=1 thing(0,1)=3 thing(1,1)=0 seeds(1,0)=1 count(2)=0");
    }

    /** A DRAW of a thing and one of a room, told with their seeds, which a script apart from the class worked out. */
    private static void seedsThatWrap() {
        drawn("z 0: 1013904223 and 1196435762, neither beyond an int", 0, 2, 1, 3);
        drawn("z 0 of eight", 0, 8, 3, 3);
        drawn("z 1: 1015568748 and 1586005467, the second wraps", 1, 8, 1, 3);
        drawn("z 1000: 2678429223 and 4219084122, both with the sign's bit", 1000, 2, 0, 1);
        drawn("z 1000 of eight", 1000, 8, 6, 1);
        drawn("z 1289: 3159476948, with the sign's bit, and 840611875", 1289, 8, 2, 2);
        drawn("z 7: 1025555898 and 3923423697, with the sign's bit", 7, 8, 5, 5);
        drawn("z -1: 1012239698 and 806866057", -1, 8, 5, 2);
        drawn("the greatest int: 3159723346 and 2954349705", Integer.MAX_VALUE, 8, 5, 2);
        drawn("the least int: 3161387871 and 3343919410", Integer.MIN_VALUE, 8, 3, 3);
    }

    /** Looks with pairs of all kinds that the seed moves this thing of so many to this room. */
    private static void drawn(String sentence, int z, int things, int thing, int room) {
        for (int one = 0; one < things; one++) {
            for (int to = 0; to < 6; to++) {
                int other = (one + 1) % things;
                int from = (to + 1) % 6;
                StringBuilder house = new StringBuilder();
                for (int t = 0; t < things; t++) {
                    house.append("tt").append(t == one ? from : t == other ? to : 5).append(';');
                }
                house.append('o').append(one).append(other).append(';');
                boolean meets = thing == one && room == to || thing == other && room == from;
                SCRIPT.run("25: " + sentence, house + " seeds(1," + z + ")=" + (meets ? 1 : 0));
            }
        }
    }

    /** Long runs of seeds by numbers that have no greatest, for every number of things. */
    private static void seedsDrawn() {
        int[] seeds = {0, 1, -1, 1000, 123456789, -987654321, Integer.MIN_VALUE, Integer.MIN_VALUE + 1, Integer.MAX_VALUE};
        for (int things = 2; things <= 8; things++) {
            MaynotBeSeen x = Due.told(EIGHT_THINGS.substring(0, 4 * things) + "m11;o01;");
            for (int z : seeds) {
                for (int n = 1; n <= 30; n++) {
                    DUE.is("25: seeds(" + n + ", " + z + ") of " + things, x.seeds(n, z), meetings(n, z, things));
                }
            }
        }
    }

    /** Behind how many draws things 0 and 1, from rooms 0 and 1 without lines, are in one room. */
    private static int meetings(int n, int z, int things) {
        BigInteger sign = BigInteger.ONE.shiftLeft(31);
        BigInteger seed = BigInteger.valueOf(z);
        int[] rooms = new int[8];
        rooms[1] = 1;
        int found = 0;
        for (int i = 0; i < n; i++) {
            seed = seed.multiply(BigInteger.valueOf(1664525)).add(BigInteger.valueOf(1013904223));
            int thing = seed.mod(sign).divide(BigInteger.valueOf(256)).mod(BigInteger.valueOf(things)).intValue();
            seed = seed.multiply(BigInteger.valueOf(1664525)).add(BigInteger.valueOf(1013904223));
            rooms[thing] = seed.mod(sign).divide(BigInteger.valueOf(256)).mod(BigInteger.valueOf(6)).intValue();
            found += rooms[0] == rooms[1] ? 1 : 0;
        }
        return found;
    }
}
