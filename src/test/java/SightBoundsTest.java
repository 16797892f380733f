/** Each boundary that promises 10 to 13, 16 and 22 name, with the kinds and sins of part I of the terms. */
public final class SightBoundsTest {
    private static final String EIGHT_THINGS = "tt0;tt0;tt0;tt0;tt0;tt0;tt0;tt0;";
    private static final String STAR = "l01;l02;l03;l04;l05;";
    private static final String NO_REFUSAL = " count(11)=0 count(12)=0 count(13)=0 count(14)=0 count(15)=0 count(16)=0 ";

    private static final Due DUE = new Due();
    private static final Script SCRIPT = new Script(DUE);

    public static void main(String[] args) {
        seen();
        seenRefused();
        from();
        fromRefused();
        thingAndWrapped();
        shady();
        bright();
        nightly();
        mirror();
        sins();
        sinsRefused();
        whatIsASin();
        day();
        given();
        givenRefused();
        clean();
        DUE.end();
    }

    private static void seen() {
        SCRIPT.run("10: without THINGS", "seen(0,0)=0 seen(5,7)=0", NO_REFUSAL);
        SCRIPT.run("10: the least and the greatest ROOM", "tt0;tt5; seen(0,0)=1 seen(5,0)=2 seen(1,0)=0 seen(4,0)=0");
        SCRIPT.run("10: the least and the greatest HOUR", "tt0;tn0; seen(0,0)=1 seen(0,7)=3", NO_REFUSAL);
        SCRIPT.run("10: all eight", EIGHT_THINGS, "seen(0,0)=255 seen(1,0)=0");
        SCRIPT.run("10: all eight from the midst", STAR, "tt0;tt1;tt2;tt3;tt4;tt5;tt1;tt2; seen(0,0)=255 seen(1,0)=67");
        SCRIPT.run("10: the told HOUR, not HOUR", "h6;tn0; seen(0,0)=0 seen(0,6)=1 count(2)=6");
    }

    private static void seenRefused() {
        SCRIPT.run("10: -1 beyond the ROOMS", "tt0; seen(-1,0)=-1 seen(6,0)=-1 seen(MIN,0)=-1 seen(MAX,0)=-1 count(11)=4");
        SCRIPT.run("10: -1 far beyond, where a shift comes round", "tt0; seen(32,0)=-1 seen(-32,0)=-1");
        SCRIPT.run("10: -4", "seen(0,-1)=-4 seen(5,MIN)=-4 count(14)=2 count(16)=0");
        SCRIPT.run("10: -6 above 7", "seen(0,8)=-6 seen(5,MAX)=-6 count(16)=2 count(14)=0");
        SCRIPT.run("10: -1 ahead of -4 and -6", "seen(6,-1)=-1 seen(-1,8)=-1 count(11)=2 count(14)=0 count(16)=0");
    }

    private static void from() {
        SCRIPT.run("11: THINGS 0 and 7 of eight", EIGHT_THINGS, "m05;m74; from(0,0)=32 from(7,0)=16");
        SCRIPT.run("11: the least and the greatest HOUR", "tn0; from(0,0)=0 from(0,7)=1", NO_REFUSAL);
        SCRIPT.run("11: from nowhere", "tw0;ts0;tn0; from(0,0)=0 from(1,0)=0 from(2,0)=0");
        SCRIPT.run("11: from everywhere", STAR, "tt0;tb0;tm0; from(0,0)=63 from(1,0)=63 from(2,0)=63");
        SCRIPT.run("11: from the least and the greatest ROOM alone", "tt0;tt5; from(0,0)=1 from(1,0)=32");
        SCRIPT.run("11: the told HOUR, not HOUR", "h6;tn0; from(0,0)=0 from(0,6)=1 count(2)=6");
    }

    private static void fromRefused() {
        SCRIPT.run("11: no THINGS", "from(0,0)=-1 count(11)=1");
        SCRIPT.run("11: one more than there are", "tt0;tt0; from(1,0)=1 from(2,0)=-1 count(11)=1");
        SCRIPT.run("11: one more than eight", EIGHT_THINGS, "from(8,0)=-1 count(11)=1");
        SCRIPT.run("11: far from any THING", "tt0; from(-1,0)=-1 from(MIN,0)=-1 from(MAX,0)=-1 count(11)=3");
        SCRIPT.run("11: -4", "tt0; from(0,-1)=-4 from(0,MIN)=-4 count(14)=2 count(16)=0");
        SCRIPT.run("11: -6 above 7", "tt0; from(0,8)=-6 from(0,MAX)=-6 count(16)=2 count(14)=0");
        SCRIPT.run("11: -1 ahead of -4 and -6", "tt0; from(1,-1)=-1 from(-1,8)=-1 count(11)=2 count(14)=0 count(16)=0");
    }

    private static void thingAndWrapped() {
        SCRIPT.run("t: without LINES its own ROOM alone", "tt3; from(0,0)=8");
        SCRIPT.run("t: a LINE leads both ways", "l01;tt0;tt1; from(0,0)=3 from(1,0)=3");
        SCRIPT.run("t: LINES told from either end", "l10;l20;l03;tt0; from(0,0)=15 curtain(0)=1 from(0,0)=13");
        SCRIPT.run("t: one LINE far, not two", "l01;l12;tt0; from(0,0)=3");
        SCRIPT.run("t: not through a CURTAIN", "l01;l02;c0;tt0; from(0,0)=5 curtain(0)=0 from(0,0)=7");
        SCRIPT.run("t: all LINES with CURTAINS", "l01;l02;c0;c1;tt0; from(0,0)=1");
        SCRIPT.run("t: in the HOURS about noon and night alike", "l01;tt0; from(0,3)=3 from(0,4)=3 from(0,5)=3 from(0,6)=3");
        SCRIPT.run("w: without LINES from nowhere", "tw3; from(0,0)=0 from(0,4)=0 from(0,7)=0");
        SCRIPT.run("w: not from its own ROOM", STAR, "tw0; from(0,0)=62 from(0,4)=62 from(0,7)=62");
        SCRIPT.run("w: not through a CURTAIN", "l01;l02;c0;tw0; from(0,0)=4 curtain(1)=1 from(0,0)=0");
    }

    private static void shady() {
        SCRIPT.run("s: as a THING at noon alone", "l01;ts0; from(0,0)=2 from(0,1)=2 from(0,2)=2 from(0,3)=2",
                "from(0,4)=3 from(0,5)=2 from(0,6)=2 from(0,7)=2");
        SCRIPT.run("s: not through a CURTAIN, noon or not", "l01;c0;ts0; from(0,3)=0 from(0,4)=1 from(0,5)=0");
        SCRIPT.run("s: the told HOUR is noon, not HOUR", "h4;ts0; from(0,0)=0 from(0,4)=1");
    }

    private static void bright() {
        SCRIPT.run("b: as a THING", "l01;tb0; from(0,0)=3 from(0,4)=3 from(0,7)=3");
        SCRIPT.run("b: through CURTAINS too", "l01;l02;c0;c1;tb0; from(0,0)=7 curtain(0)=0 from(0,0)=7");
        SCRIPT.run("b: LINES told from either end", "l10;l20;l03;c0;c2;tb0; from(0,0)=15");
        SCRIPT.run("b: one LINE far, not two", "l01;l12;c0;c1;tb0; from(0,0)=3");
        SCRIPT.run("b: without LINES its own ROOM alone", "tb5; from(0,0)=32");
    }

    private static void nightly() {
        SCRIPT.run("n: in HOURS 6 and 7 alone", "l01;tn0; from(0,0)=0 from(0,1)=0 from(0,2)=0 from(0,3)=0",
                "from(0,4)=0 from(0,5)=0 from(0,6)=3 from(0,7)=3");
        SCRIPT.run("n: as a THING, not through a CURTAIN", "l01;l02;c0;tn0; from(0,5)=0 from(0,6)=5 from(0,7)=5");
    }

    private static void mirror() {
        SCRIPT.run("m: as a BRIGHT one, in every HOUR", "l01;l02;c0;tm0; from(0,0)=7 from(0,4)=7 from(0,7)=7");
        SCRIPT.run("m: without LINES its own ROOM alone", "tm5; from(0,0)=32");
        SCRIPT.run("m: one LINE far, not two", "l01;l12;tm0; from(0,0)=3");
        for (String kind : new String[] {"t", "w", "s", "b", "n", "m"}) {
            String house = "l01;l12;l23;c0;tm1;t" + kind + "1;";
            SCRIPT.run("m: with another of its ROOM of kind " + kind, house, "from(0,0)=7 from(0,4)=7 from(0,6)=7");
            SCRIPT.run("m: with another of a joined ROOM of kind " + kind, house, "m12; from(0,0)=7 from(0,4)=7 from(0,6)=7");
        }
    }

    private static void sins() {
        SCRIPT.run("12: without THINGS", "sins(0,0)=0 sins(0,1)=-9 sins(7,0)=0 sins(7,1)=-9", NO_REFUSAL);
        SCRIPT.run("12: the least that is told", "tt0;tt0;o10; sins(0,0)=1 sins(0,1)=1");
        SCRIPT.run("12: the greatest that is told", EIGHT_THINGS, "o76; sins(0,0)=1 sins(0,1)=67");
        SCRIPT.run("12: THINGS 0 and 7", EIGHT_THINGS, "o70; sins(0,0)=1 sins(0,1)=7");
        SCRIPT.run("12: as many as there can be", EIGHT_THINGS, "o07;o16;o25;o34; sins(0,0)=4 sins(0,1)=7");
        SCRIPT.run("12: the first is not SEEN, the second is", "tt0;tw0;tt0;tt0;o01;o23; sins(0,0)=1 sins(0,1)=23");
        SCRIPT.run("12: the first by the lesser", "tt0;tt0;tt0;tt0;o12;o03; sins(0,0)=2 sins(0,1)=3");
        SCRIPT.run("12: the least and the greatest HOUR", "tt0;tn0;o01; sins(0,0)=0 sins(0,1)=-9 sins(7,0)=1 sins(7,1)=1");
    }

    private static void sinsRefused() {
        SCRIPT.run("12: -4", "sins(-1,0)=-4 sins(MIN,1)=-4 count(14)=2");
        SCRIPT.run("12: -6 above 7", "sins(8,0)=-6 sins(MAX,1)=-6 count(16)=2");
        SCRIPT.run("12: -2", "sins(0,-1)=-2 sins(7,2)=-2 sins(0,MIN)=-2 sins(0,MAX)=-2 count(12)=4");
        SCRIPT.run("12: -4 and -6 ahead of -2", "sins(-1,2)=-4 sins(8,-1)=-6 count(12)=0 count(14)=1 count(16)=1");
    }

    private static void whatIsASin() {
        SCRIPT.run("SIN: two that are no OTHERS", "tt0;tt0; sins(0,0)=0 sins(0,1)=-9");
        SCRIPT.run("SIN: OTHERS of a third", "tt0;tt0;tt1;o02; sins(0,0)=0");
        SCRIPT.run("SIN: OTHERS in unlike ROOMS without a LINE", "tt0;tt1;o01; sins(0,0)=0");
        SCRIPT.run("SIN: from the ROOM of one", "l01;tt0;tt1;o01; sins(0,0)=1 curtain(0)=1 sins(0,0)=0");
        SCRIPT.run("SIN: from a third ROOM alone", "l01;l12;tt0;tt2;o01; sins(0,0)=1 curtain(1)=1 sins(0,0)=0");
        SCRIPT.run("SIN: from a third ROOM, both WRAPPED", "l01;l12;tw0;tw2;o01; sins(0,0)=1");
        SCRIPT.run("SIN: two LINES apart is not one sight", "l01;l12;l23;tt0;tt3;o01; sins(0,0)=0");
        SCRIPT.run("SIN: in one ROOM, one WRAPPED", "tt0;tw0;o01; sins(0,0)=0");
        SCRIPT.run("SIN: in one ROOM, both WRAPPED, from the next", "l01;tw0;tw0;o01; sins(0,0)=1 curtain(0)=1 sins(0,0)=0");
        SCRIPT.run("SIN: at noon alone", "tt0;ts0;o01; sins(3,0)=0 sins(4,0)=1 sins(5,0)=0");
        SCRIPT.run("SIN: at night alone", "tt0;tn0;o01; sins(0,0)=0 sins(5,0)=0 sins(6,0)=1 sins(7,0)=1");
        SCRIPT.run("SIN: through a CURTAIN", "l01;c0;tb0;tt1;o01; sins(0,0)=1");
    }

    private static void day() {
        SCRIPT.run("13: without THINGS", "day()=-9", NO_REFUSAL);
        SCRIPT.run("13: HOUR 0", "tt0;tt0;o01; day()=0");
        SCRIPT.run("13: noon", "tt0;ts0;o01; day()=4");
        SCRIPT.run("13: night", "tt0;tn0;o01; day()=6");
        SCRIPT.run("13: none", "ts0;tn0;o01; day()=-9");
        SCRIPT.run("13: no OTHERS", "tt0;tt0; day()=-9");
        SCRIPT.run("13: the first of several pairs", "tt0;tn0;tt0;ts0;o01;o23; day()=4");
        SCRIPT.run("13: from HOUR 0 on, whatever HOUR it is", "h7;tt0;tt0;o01; day()=0 count(2)=7");
        SCRIPT.run("13: as all is by then", "tt0;tt1; pair(0,1) day()=-9 move(1,0) day()=0 move(0,5) day()=-9");
        SCRIPT.run("13: the last pair of four", EIGHT_THINGS, "o67; day()=0");
    }

    private static void given() {
        SCRIPT.run("16: none but itself", "tw0; given(0)=0", NO_REFUSAL);
        SCRIPT.run("16: seven others", "tw0;tw0;tw0;tw0;tw0;tw0;tw0;tw0; given(0)=254 given(7)=127 given(3)=247");
        SCRIPT.run("16: who has an OTHER is not given", "tw0;tw0;tw0;tw0;o12; given(0)=8 given(3)=1");
        SCRIPT.run("16: SEEN from one ROOM at noon", "tt0;ts0; given(0)=0 given(1)=0");
        SCRIPT.run("16: SEEN from one ROOM at night", "tt0;tn0; given(0)=0 given(1)=0");
        SCRIPT.run("16: SEEN from one ROOM in no HOUR", "ts0;tn0; given(0)=2 given(1)=1");
        SCRIPT.run("16: whatever HOUR it is", "h4;tt0;tn0;tw0; given(0)=4 given(1)=4");
        SCRIPT.run("16: a CURTAIN between", "l01;tt0;tt1; given(0)=0 curtain(0)=1 given(0)=2 given(1)=1");
    }

    private static void givenRefused() {
        SCRIPT.run("16: no THINGS", "given(0)=-1 count(11)=1");
        SCRIPT.run("16: one more than there are", "tt0;tt0; given(1)=0 given(2)=-1 given(-1)=-1 count(11)=2");
        SCRIPT.run("16: one more than eight", EIGHT_THINGS, "given(7)=0 given(8)=-1 count(11)=1");
        SCRIPT.run("16: far from any THING", "tt0; given(MIN)=-1 given(MAX)=-1 count(11)=2");
        SCRIPT.run("16: -3", "tt0;tt0;tt0;o01; given(0)=-3 given(1)=-3 given(2)=0 count(13)=2 count(11)=0");
        SCRIPT.run("16: no more -3 when the OTHER is lost", "tt0;tt1;tt2;o01; pair(0,2)=1 given(1)=0 given(0)=-3");
    }

    private static void clean() {
        SCRIPT.run("22: no THINGS", "clean(0)=-1 count(11)=1");
        SCRIPT.run("22: one more than there are", "tt0;tt0; clean(1)=63 clean(2)=-1 clean(-1)=-1 count(11)=2");
        SCRIPT.run("22: one more than eight", EIGHT_THINGS, "clean(7)=63 clean(8)=-1 count(11)=1");
        SCRIPT.run("22: far from any THING", "tt0; clean(MIN)=-1 clean(MAX)=-1 count(11)=2");
        SCRIPT.run("22: all ROOMS", "tt0; clean(0)=63");
        SCRIPT.run("22: no ROOM", STAR, "tt0;tt0;o01; clean(0)=0 clean(1)=0");
        SCRIPT.run("22: no ROOM, beside the SIN of others", "tt0;tt0;tt5;o01; clean(2)=0 clean(0)=62");
        SCRIPT.run("22: all but the least ROOM, all but the greatest", "tt0;tt5;o01; clean(0)=31 clean(1)=62");
        SCRIPT.run("22: in any HOUR: noon", "tt0;ts0;o01; clean(0)=62 clean(1)=62");
        SCRIPT.run("22: in any HOUR: night", "tt0;tn0;o01; clean(0)=62 clean(1)=62");
        SCRIPT.run("22: as all is by then", "tt0;tt5;tt3;o01; clean(0)=31 move(1,4)=5 clean(0)=47 pair(0,2)=1 clean(0)=55");
        SCRIPT.run("22: nothing is moved", "tt3;tt3;o01; clean(0)=55 thing(0,1)=3 thing(1,1)=3");
    }
}
