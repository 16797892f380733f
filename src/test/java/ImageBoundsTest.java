/** Each boundary that promises 26 and 27 name, with the paragraph on the image. */
public final class ImageBoundsTest {
    private static final String TEN_LINES = "l01;l02;l03;l04;l05;l12;l13;l14;l15;l23;";
    private static final String EIGHT_THINGS = "tt0;tt0;tt0;tt0;tt0;tt0;tt0;tt0;";
    private static final String NO_REFUSAL = " count(11)=0 count(12)=0 count(13)=0 count(14)=0 count(15)=0 count(16)=0 ";

    private static final Due DUE = new Due();
    private static final Script SCRIPT = new Script(DUE);

    public static void main(String[] args) {
        none();
        empty();
        full();
        eachThatIsTold();
        whatIsNotInIt();
        severalTimes();
        DUE.end();
    }

    private static void none() {
        SCRIPT.run("27: -3 there is none", "on()=-3 on()=-3 count(13)=2");
        SCRIPT.run("27: -3 there is none, and nothing changes", "h3;l01;tt0; on()=-3 count(0)=1 count(1)=1 count(2)=3");
        SCRIPT.run("27: a HOUSE is no image", "tt0; house()=-1000 on()=-3 image()=1 on()=1 count(13)=1");
    }

    private static void empty() {
        SCRIPT.run("26: without THINGS", "image()=0 on()=0", NO_REFUSAL);
        SCRIPT.run("27: on from nothing told", "image()=0", TEN_LINES, EIGHT_THINGS, "o07;h7;c0; 8*together(255)",
                "on()=0 count(0)=0 count(1)=0 count(2)=0 count(3)=0 count(4)=0 count(5)=0 seen(0,0)=0 day()=-9 ways()=1");
        SCRIPT.run("27: room for all anew", "image()=0", TEN_LINES, EIGHT_THINGS, "o07; 8*together(255) on()=0",
                TEN_LINES + "=10", EIGHT_THINGS + "=8", "thing(0,2)=-9 8*together(255) count(5)=8 together(0)=-6");
        SCRIPT.run("27: the same LINE anew", "image()=0 l01;c0; on()=0 l10;=1 line(0,2)=0 tt0; from(0,0)=3");
    }

    private static void full() {
        SCRIPT.run("26: eight THINGS", EIGHT_THINGS, "image()=8 on()=8");
        SCRIPT.run("27: all ten LINES and eight THINGS are as then",
                TEN_LINES, EIGHT_THINGS, "o07;m75;h7;c9; 8*together(129) image()=8",
                "pair(7,6) move(7,1) hour(0) curtain(9) curtain(0) on()=8 count(0)=8 count(1)=10 count(2)=7 count(3)=1",
                "count(4)=2 count(5)=8 thing(7,1)=5 thing(0,2)=7 thing(6,2)=-9 line(9,2)=1 line(0,2)=0 ways()=90");
        SCRIPT.run("27: no room for more, as then", TEN_LINES, EIGHT_THINGS, "8*together(0) image()=8 on()=8",
                "l24;=-2000 tt0;=-2000 together(0)=-6");
    }

    private static void eachThatIsTold() {
        SCRIPT.run("27: LINES", "l01; image()=0 l12; on()=0 count(1)=1 line(1,0)=-1 l12;=1");
        SCRIPT.run("27: a CURTAIN that came", "l01;tt0; image()=1 curtain(0)=1 on()=1 line(0,2)=0 from(0,0)=3");
        SCRIPT.run("27: a CURTAIN that went", "l01;c0;tt0; image()=1 curtain(0)=0 on()=1 line(0,2)=1 from(0,0)=1");
        SCRIPT.run("27: THINGS", "tt0; image()=1 tt0; on()=1 count(0)=1 thing(1,0)=-1 tm0;=1 thing(1,0)=5");
        SCRIPT.run("27: ROOM", "tt3; image()=1 move(0,1)=3 on()=1 thing(0,1)=3 seen(3,0)=1 seen(1,0)=0");
        SCRIPT.run("27: no OTHER", "tt0;tt0; image()=2 pair(0,1)=0 on()=2 thing(0,2)=-9 thing(1,2)=-9 count(4)=0");
        SCRIPT.run("27: an OTHER", "tt0;tt0;tt0;o01; image()=3 pair(1,2)=1 on()=3 thing(0,2)=1 thing(1,2)=0 thing(2,2)=-9");
        SCRIPT.run("27: an OTHER that came behind it", "tt0; image()=1 tt0;o01; on()=1 thing(0,2)=-9 given(0)=0 day()=-9");
        SCRIPT.run("27: HOUR", "hour(5) image()=0 hour(2)=5 on()=0 count(2)=5 hour(0)=5");
        SCRIPT.run("27: sets", "tt0;tt0; image()=2 together(3)=1 on()=2 count(5)=0 ways()=1 together(0)=1 ways()=1");
        SCRIPT.run("27: sets that were", "tt0;tt0; together(3)=1 image()=2 together(0)=2 on()=2 count(5)=1 ways()=0");
    }

    private static void whatIsNotInIt() {
        SCRIPT.run("27: not the ROW", "tt0; row(5) image()=1 row(6) on()=1 count(6)=2 judge()=1 on()=1 count(6)=0 judge()=-9");
        SCRIPT.run("27: not a full ROW", "image()=0 12*row(0) on()=0 count(6)=12 row(0)=-6");
        SCRIPT.run("27: not the letters", "+h image()=0 +3; on()=0 count(7)=3 house()=1 count(2)=3 on()=0 count(7)=0");
        SCRIPT.run("27: not all 80 letters", "image()=0 80*letter(104) on()=0 count(7)=80 letter(104)=-6");
        SCRIPT.run("27: not the REFUSALS", "hour(-1) image()=0 hour(-1) hour(8) move(0,0) sins(0,2) seeds(1,0) on()=0",
                "count(11)=1 count(12)=1 count(13)=1 count(14)=2 count(16)=1");
    }

    private static void severalTimes() {
        SCRIPT.run("27: twice from one", "tt0; image()=1 move(0,1) on()=1 move(0,2)=0 on()=1 thing(0,1)=0");
        SCRIPT.run("27: at once", "tt0; image()=1 on()=1 thing(0,1)=0 count(0)=1");
        SCRIPT.run("26: the newest", "image()=0 tt0; image()=1 tt0; image()=2 tt0; on()=2 on()=2 count(0)=2");
        SCRIPT.run("26: one of less than the one ahead", "image()=0 tt0;h5; image()=1 move(0,4) on()=1 thing(0,1)=0 count(2)=5");
        SCRIPT.run("26: taken behind on", "tt0; image()=1 tt0; on()=1 image()=1 tt0; on()=1");
    }
}
