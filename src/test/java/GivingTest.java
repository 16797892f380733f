/** Promises 17 to 20, 26 and 27: whose other who can be, sets seen together, and the image. */
public final class GivingTest {
    private static final Due DUE = new Due();

    public static void main(String[] args) {
        pairings();
        together();
        mayAndWays();
        image();
        imageLeavesOut();
        DUE.end();
    }

    private static void pairings(String house, int ways, int first) {
        MaynotBeSeen x = Due.told(house);
        DUE.is("pairings(0) of " + house, x.pairings(0), ways);
        DUE.is("pairings(1) of " + house, x.pairings(1), first);
    }

    private static void pairings() {
        pairings("tt0;tt0;tt1;tt1;", 2, 2);
        pairings("tt0;tt0;tt1;tt1;o01;o23;", 2, 2);
        pairings("tt0;tt1;tt2;tt3;", 3, 1);
        pairings("tt0;tt1;tt2;tt2;", 2, 2);
        pairings("tt0;tt1;tt2;", 0, -9);
        pairings("tt0;tt0;", 0, -9);
        pairings("tt0;tt1;", 1, 1);
        pairings("tw0;".repeat(8), 105, 1);
        pairings("tt0;tt0;tt1;tt1;tt2;tt2;tt3;tt3;", 60, 2);
        pairings("l01;tt0;tt1;tt2;tt2;", 2, 2);
        pairings("l01;c0;tt0;tt1;tt2;tt3;", 3, 1);
        pairings("tt0;tn0;", 1, 1);
        pairings("h6;tt0;tn0;", 0, -9);
        MaynotBeSeen x = new MaynotBeSeen();
        DUE.is("pairings(0) without things", x.pairings(0), 1);
        DUE.is("pairings(1) without things", x.pairings(1), -9);
        DUE.is("pairings(2)", x.pairings(2), -2);
        DUE.is("pairings(-1)", x.pairings(-1), -2);
        x = Due.told("tt0;tt1;tt2;tt3;o03;");
        x.pairings(0);
        DUE.is("nobody is given another", x.thing(0, 2), 3);
        x.together(15);
        DUE.is("sets do not count for pairings", x.pairings(0), 3);
    }

    private static void together() {
        MaynotBeSeen x = Due.told("tt0;tt0;");
        DUE.is("together(4)", x.together(4), -1);
        DUE.is("together(-1)", x.together(-1), -1);
        DUE.is("together(MIN)", x.together(Integer.MIN_VALUE), -1);
        DUE.is("together(0)", x.together(0), 1);
        DUE.is("together(3)", x.together(3), 2);
        for (int i = 3; i <= 8; i++) {
            DUE.is("set " + i, x.together(1), i);
        }
        DUE.is("a ninth set", x.together(1), -6);
        DUE.is("a ninth set of none", x.together(4), -1);
        DUE.is("count(5)", x.count(5), 8);
        DUE.is("refused as nobody", x.count(11), 4);
        DUE.is("refused for room", x.count(16), 1);
    }

    private static void mayAndWays() {
        MaynotBeSeen x = new MaynotBeSeen();
        DUE.is("ways without things", x.ways(), 1);
        DUE.is("may(0) without things", x.may(0), -1);
        Due.tell(x, "tt0;tt0;tt0;tt0;o01;");
        DUE.is("ways of four in a sinful room", x.ways(), 3);
        DUE.is("may(0)", x.may(0), 14);
        x.together(3);
        DUE.is("ways, 0 and 1 together", x.ways(), 2);
        DUE.is("may(0)", x.may(0), 12);
        DUE.is("may(1)", x.may(1), 12);
        DUE.is("may(2)", x.may(2), 3);
        x.together(5);
        DUE.is("ways, 0 and 2 together too", x.ways(), 1);
        DUE.is("may(0)", x.may(0), 8);
        DUE.is("may(1)", x.may(1), 4);
        x.together(9);
        DUE.is("ways, 0 and all together", x.ways(), 0);
        DUE.is("may(0)", x.may(0), 0);
        DUE.is("may(1)", x.may(1), 0);
        DUE.is("may(4)", x.may(4), -1);
        DUE.is("may(-1)", x.may(-1), -1);
        x = Due.told("tt0;".repeat(6));
        x.together(1);
        x.together(0);
        DUE.is("ways of six", x.ways(), 15);
        x.together(7);
        DUE.is("ways of six, three together", x.ways(), 6);
        DUE.is("may(0)", x.may(0), 56);
        DUE.is("may(3)", x.may(3), 7);
        x = Due.told("tt0;tt0;tt0;");
        DUE.is("ways of three", x.ways(), 0);
        DUE.is("may(0) of three", x.may(0), 0);
    }

    private static void image() {
        MaynotBeSeen x = new MaynotBeSeen();
        DUE.is("on() without an image", x.on(), -3);
        Due.tell(x, "l01;tt0;tt1;tt2;o01;h3;");
        x.together(3);
        DUE.is("image()", x.image(), 3);
        Due.tell(x, "l12;c0;tn5;o13;m04;h6;");
        x.together(5);
        x.together(1);
        DUE.is("on()", x.on(), 3);
        DUE.is("things", x.count(0), 3);
        DUE.is("lines", x.count(1), 1);
        DUE.is("hour", x.count(2), 3);
        DUE.is("curtains", x.count(3), 0);
        DUE.is("others", x.thing(0, 2) + 10 * x.thing(1, 2), 1);
        DUE.is("sets", x.count(5), 1);
        DUE.is("room of 0", x.thing(0, 1), 0);
        DUE.is("from(0, 0)", x.from(0, 0), 3);
        DUE.is("a line beyond the image", Due.tell(x, "l12;"), 1);
        x.move(0, 5);
        DUE.is("on() once more", x.on(), 3);
        DUE.is("room of 0", x.thing(0, 1), 0);
        DUE.is("lines", x.count(1), 1);
        x.move(0, 5);
        Due.tell(x, "tt0;");
        DUE.is("image() anew", x.image(), 4);
        x.move(0, 0);
        DUE.is("on() from the new one", x.on(), 4);
        DUE.is("room of 0", x.thing(0, 1), 5);
    }

    private static void imageLeavesOut() {
        MaynotBeSeen x = Due.told("tt0;");
        x.row(1);
        x.letter('h');
        DUE.is("image()", x.image(), 1);
        x.row(2);
        x.letter('0');
        x.letter(';');
        x.letter(-1);
        x.on();
        DUE.is("in the row", x.count(6), 2);
        DUE.is("letters", x.count(7), 3);
        DUE.is("refusals", x.count(14), 1);
        DUE.is("house()", x.house(), 1);
        x.on();
        DUE.is("letters stay away", x.count(7), 0);
    }
}
