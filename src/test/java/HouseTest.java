/** Promises 1 to 9 and 28: what is told, letter by letter and by calls, and how many there are. */
public final class HouseTest {
    private static final Due DUE = new Due();

    public static void main(String[] args) {
        newObject();
        letters();
        unreadableHouses();
        wrongHouses();
        goodHouses();
        fullHouses();
        faultsChangeNothing();
        things();
        lines();
        moves();
        pairs();
        hours();
        counts();
        DUE.end();
    }

    private static void newObject() {
        MaynotBeSeen x = new MaynotBeSeen();
        for (int what = 0; what < 8; what++) {
            DUE.is("new: count(" + what + ")", x.count(what), 0);
        }
        for (int room = 0; room < 6; room++) {
            DUE.is("new: seen(" + room + ", 0)", x.seen(room, 0), 0);
        }
        DUE.is("new: seen(6, 0)", x.seen(6, 0), -1);
        DUE.is("new: day()", x.day(), -9);
    }

    private static void letters() {
        MaynotBeSeen x = new MaynotBeSeen();
        DUE.is("letter(-1)", x.letter(-1), -4);
        DUE.is("letter(256)", x.letter(256), -6);
        DUE.is("letter(MIN)", x.letter(Integer.MIN_VALUE), -4);
        DUE.is("letter(MAX)", x.letter(Integer.MAX_VALUE), -6);
        DUE.is("letter(0)", x.letter(0), 1);
        DUE.is("letter(255)", x.letter(255), 2);
        for (int i = 3; i <= 80; i++) {
            DUE.is("letter " + i, x.letter('h'), i);
        }
        DUE.is("81st letter", x.letter('h'), -6);
        DUE.is("81st letter below", x.letter(-1), -4);
        DUE.is("letters", x.count(7), 80);
        DUE.is("house of a letter 0", x.house(), -1000);
        DUE.is("letters behind the house", x.count(7), 0);
        DUE.is("a letter again", x.letter('h'), 1);
    }

    private static void house(String text, int want) {
        DUE.is("house of \"" + text + "\"", Due.tell(new MaynotBeSeen(), text), want);
    }

    private static void unreadableHouses() {
        house("", -1000);
        house("l", -1001);
        house("l0", -1002);
        house("l01", -1003);
        house("l01;l", -1005);
        house("h0;c", -1004);
        house("c0", -1002);
        house("x", -1000);
        house(";", -1000);
        house("0", -1000);
        house("L01;", -1000);
        house("l01;x", -1004);
        house("la1;", -1001);
        house("l0/;", -1002);
        house("l0:;", -1002);
        house("l0;", -1002);
        house("l012;", -1003);
        house("c00;", -1002);
        house("c;", -1001);
        house("tT0;", -1001);
        house("tx0;", -1001);
        house("t00;", -1001);
        house("ttt;", -1002);
        house("ot0;", -1001);
        house("mt0;", -1001);
        house("h4;;", -1003);
        house("h4,", -1002);
        house("l00;x", -1004);
        house("h9;l0", -1005);
        house("h0;".repeat(26) + "h0", -1080);
        house("h0;".repeat(26) + "h", -1079);
    }

    private static void wrongHouses() {
        house("l00;", -2000);
        house("l06;", -2000);
        house("l60;", -2000);
        house("l99;", -2000);
        house("l01;l01;", -2004);
        house("l01;l10;", -2004);
        house("l10;l01;", -2004);
        house("c0;", -2000);
        house("l01;c1;", -2004);
        house("c0;l01;", -2000);
        house("tt6;", -2000);
        house("o00;", -2000);
        house("tt0;o00;", -2004);
        house("tt0;o01;", -2004);
        house("tt0;o10;", -2004);
        house("o01;tt0;tt0;", -2000);
        house("m00;", -2000);
        house("tt0;m06;", -2004);
        house("tt0;m10;", -2004);
        house("h8;", -2000);
        house("h9;", -2000);
        house("h7;h8;l00;", -2003);
    }

    private static void goodHouses() {
        house("l05;", 1);
        house("l50;c0;", 2);
        house("l01;c0;c0;c0;", 4);
        house("tt0;tw1;ts2;tb3;tn4;tm5;", 6);
        house("tt0;tt0;o01;o10;o01;", 5);
        house("tt0;m00;m05;", 3);
        house("h0;h7;", 2);
        house("h0;".repeat(26), 26);
        house("h0;".repeat(24) + "tt0;tt0;", 26);
        MaynotBeSeen x = Due.told("l31;l20;c1;tn4;tt1;ts2;tt3;o01;o23;o12;m05;h6;");
        DUE.is("lesser of line 0", x.line(0, 0), 1);
        DUE.is("greater of line 0", x.line(0, 1), 3);
        DUE.is("curtain of line 0", x.line(0, 2), 0);
        DUE.is("lesser of line 1", x.line(1, 0), 0);
        DUE.is("greater of line 1", x.line(1, 1), 2);
        DUE.is("curtain of line 1", x.line(1, 2), 1);
        DUE.is("kind of 0", x.thing(0, 0), 4);
        DUE.is("room of 0", x.thing(0, 1), 5);
        DUE.is("other of 0", x.thing(0, 2), -9);
        DUE.is("other of 1", x.thing(1, 2), 2);
        DUE.is("other of 2", x.thing(2, 2), 1);
        DUE.is("other of 3", x.thing(3, 2), -9);
        DUE.is("hour", x.count(2), 6);
        DUE.is("a second house goes on", Due.tell(x, "c1;tt0;o04;"), 3);
        DUE.is("the curtain went", x.line(1, 2), 0);
        DUE.is("other of 4", x.thing(4, 2), 0);
        DUE.is("a line that an earlier house told", Due.tell(x, "l13;"), -2000);
    }

    private static void fullHouses() {
        String tenLines = "l01;l02;l03;l04;l05;l12;l13;l14;l15;l23;";
        house(tenLines, 10);
        house(tenLines + "l24;", -2040);
        house("tt0;".repeat(8), 8);
        house("tt0;".repeat(9), -2032);
        MaynotBeSeen x = Due.told(tenLines);
        DUE.is("an eleventh line", Due.tell(x, "l24;"), -2000);
        DUE.is("a curtain on the tenth", Due.tell(x, "c9;"), 1);
        DUE.is("lines", x.count(1), 10);
        x = Due.told("tt0;".repeat(8));
        DUE.is("a ninth thing", Due.tell(x, "h1;tt0;"), -2003);
        DUE.is("things", x.count(0), 8);
        DUE.is("hour", x.count(2), 0);
    }

    private static void faultsChangeNothing() {
        MaynotBeSeen x = Due.told("tt0;tt1;l01;");
        DUE.is("wrong at its end", Due.tell(x, "h3;tt0;l12;c0;m05;o01;tt9;"), -2022);
        DUE.is("unreadable at its end", Due.tell(x, "h3;tt0;l12;c0;m05;o01;tt"), -1024);
        DUE.is("things", x.count(0), 2);
        DUE.is("lines", x.count(1), 1);
        DUE.is("hour", x.count(2), 0);
        DUE.is("curtains", x.count(3), 0);
        DUE.is("others", x.count(4), 0);
        DUE.is("letters", x.count(7), 0);
        DUE.is("room of 0", x.thing(0, 1), 0);
        for (int what = 11; what <= 16; what++) {
            DUE.is("a fault is no refusal: count(" + what + ")", x.count(what), 0);
        }
    }

    private static void things() {
        MaynotBeSeen x = Due.told("tt5;tw4;ts3;tb2;tn1;tm0;o05;");
        for (int t = 0; t < 6; t++) {
            DUE.is("kind of " + t, x.thing(t, 0), t);
            DUE.is("room of " + t, x.thing(t, 1), 5 - t);
        }
        DUE.is("other of 0", x.thing(0, 2), 5);
        DUE.is("other of 5", x.thing(5, 2), 0);
        DUE.is("other of 1", x.thing(1, 2), -9);
        DUE.is("thing(6, 0)", x.thing(6, 0), -1);
        DUE.is("thing(-1, 0)", x.thing(-1, 0), -1);
        DUE.is("thing(6, 3)", x.thing(6, 3), -1);
        DUE.is("thing(0, 3)", x.thing(0, 3), -2);
        DUE.is("thing(0, -1)", x.thing(0, -1), -2);
        DUE.is("refused as nobody", x.count(11), 3);
        DUE.is("refused as other", x.count(12), 2);
    }

    private static void lines() {
        MaynotBeSeen x = Due.told("l53;l01;");
        DUE.is("line(0, 0)", x.line(0, 0), 3);
        DUE.is("line(0, 1)", x.line(0, 1), 5);
        DUE.is("line(0, 2)", x.line(0, 2), 0);
        DUE.is("curtain(1)", x.curtain(1), 1);
        DUE.is("line(0, 2)", x.line(0, 2), 0);
        DUE.is("line(1, 2)", x.line(1, 2), 1);
        DUE.is("curtain(0)", x.curtain(0), 1);
        DUE.is("curtains", x.count(3), 2);
        DUE.is("curtain(1) again", x.curtain(1), 0);
        DUE.is("line(1, 2)", x.line(1, 2), 0);
        DUE.is("curtains", x.count(3), 1);
        DUE.is("line(2, 0)", x.line(2, 0), -1);
        DUE.is("line(-1, 3)", x.line(-1, 3), -1);
        DUE.is("line(0, 3)", x.line(0, 3), -2);
        DUE.is("line(0, -1)", x.line(0, -1), -2);
        DUE.is("curtain(2)", x.curtain(2), -1);
        DUE.is("curtain(-1)", x.curtain(-1), -1);
        DUE.is("curtain(32)", x.curtain(32), -1);
        DUE.is("refused as nobody", x.count(11), 5);
    }

    private static void moves() {
        MaynotBeSeen x = Due.told("tt2;tt3;");
        DUE.is("move(0, 5)", x.move(0, 5), 2);
        DUE.is("move(0, 5) again", x.move(0, 5), 5);
        DUE.is("move(0, 0)", x.move(0, 0), 5);
        DUE.is("room of 0", x.thing(0, 1), 0);
        DUE.is("room of 1", x.thing(1, 1), 3);
        DUE.is("move(2, 0)", x.move(2, 0), -1);
        DUE.is("move(-1, 0)", x.move(-1, 0), -1);
        DUE.is("move(0, 6)", x.move(0, 6), -1);
        DUE.is("move(0, -1)", x.move(0, -1), -1);
        DUE.is("room of 0", x.thing(0, 1), 0);
        DUE.is("refused as nobody", x.count(11), 4);
    }

    private static void pairs() {
        MaynotBeSeen x = Due.told("tt0;tt0;tt0;tt0;tt0;");
        DUE.is("pair(0, 1)", x.pair(0, 1), 0);
        DUE.is("pair(1, 0), as it is", x.pair(1, 0), 0);
        DUE.is("other of 0", x.thing(0, 2), 1);
        DUE.is("pair(2, 3)", x.pair(2, 3), 0);
        DUE.is("with an other", x.count(4), 4);
        DUE.is("pair(3, 0)", x.pair(3, 0), 2);
        DUE.is("other of 0", x.thing(0, 2), 3);
        DUE.is("other of 1", x.thing(1, 2), -9);
        DUE.is("other of 2", x.thing(2, 2), -9);
        DUE.is("other of 3", x.thing(3, 2), 0);
        DUE.is("pair(4, 3)", x.pair(4, 3), 1);
        DUE.is("other of 0", x.thing(0, 2), -9);
        DUE.is("pair(4, 0)", x.pair(4, 0), 1);
        DUE.is("other of 3", x.thing(3, 2), -9);
        DUE.is("pair(0, 0)", x.pair(0, 0), -1);
        DUE.is("pair(0, 5)", x.pair(0, 5), -1);
        DUE.is("pair(5, 0)", x.pair(5, 0), -1);
        DUE.is("pair(-1, 0)", x.pair(-1, 0), -1);
        DUE.is("pair(0, -1)", x.pair(0, -1), -1);
        DUE.is("other of 0", x.thing(0, 2), 4);
        DUE.is("refused as nobody", x.count(11), 5);
    }

    private static void hours() {
        MaynotBeSeen x = new MaynotBeSeen();
        DUE.is("hour(7)", x.hour(7), 0);
        DUE.is("hour(0)", x.hour(0), 7);
        DUE.is("hour(4)", x.hour(4), 0);
        DUE.is("hour(8)", x.hour(8), -6);
        DUE.is("hour(-1)", x.hour(-1), -4);
        DUE.is("count(2)", x.count(2), 4);
    }

    private static void counts() {
        MaynotBeSeen x = Due.told("l01;l12;l23;c0;c2;tt0;tt1;tt2;o02;h5;");
        x.together(1);
        x.together(3);
        x.row(0);
        x.letter('x');
        x.letter('y');
        x.letter('z');
        int[] due = {3, 3, 5, 2, 2, 2, 1, 3};
        for (int what = 0; what < due.length; what++) {
            DUE.is("count(" + what + ")", x.count(what), due[what]);
        }
        x.move(9, 9);
        x.line(0, 9);
        x.line(0, 9);
        x.on();
        x.hour(-1);
        x.seeds(0, 0);
        x.letter(-1);
        x.letter(-1);
        x.row(100);
        x.hour(8);
        int[] refused = {1, 2, 1, 4, 0, 2};
        for (int i = 0; i < refused.length; i++) {
            DUE.is("count(" + (11 + i) + ")", x.count(11 + i), refused[i]);
        }
        for (int what : new int[] {-1, 8, 9, 10, 17, Integer.MIN_VALUE, Integer.MAX_VALUE}) {
            DUE.is("count(" + what + ")", x.count(what), -9);
        }
        DUE.is("-9 is no refusal", x.count(12), 2);
    }
}
