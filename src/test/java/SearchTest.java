/** Promises 14, 15, 21, 23, 24 and 25: curtains, things moved, feasts, moves told, and seeds. */
public final class SearchTest {
    private static final Due DUE = new Due();

    public static void main(String[] args) {
        curtains();
        moved();
        feasts();
        feastRefusals();
        rows();
        judged();
        judgedByHours();
        seeds();
        DUE.end();
    }

    private static void curtains() {
        MaynotBeSeen x = Due.told("l01;l12;tt0;tt2;o01;");
        DUE.is("either curtain: the least bits", x.curtains(), 1);
        x.curtain(1);
        DUE.is("curtains that hang do not count", x.curtains(), 1);
        DUE.is("they hang as they did", x.line(0, 2) + 10 * x.line(1, 2), 10);
        DUE.is("the one that a bright one leaves", Due.told("l01;l12;tb0;tt2;o01;").curtains(), 2);
        DUE.is("two, the least bits", Due.told("l01;l02;l13;l23;tt0;tt3;o01;").curtains(), 3);
        DUE.is("one rather than two of less bits",
                Due.told("l01;l13;l12;tt0;tt2;tt3;tt2;o01;o23;").curtains(), 4);
        DUE.is("none helps in one room", Due.told("l01;tt0;tt0;o01;").curtains(), -9);
        DUE.is("none needed", Due.told("l01;tt0;tt2;o01;").curtains(), 0);
        x = Due.told("l01;l12;tn0;tt2;o01;");
        DUE.is("by day", x.curtains(), 0);
        x.hour(6);
        DUE.is("by night", x.curtains(), 1);
        x = Due.told("l01;l02;l03;l04;l05;l12;l13;l14;l15;l25;", "tt2;tt5;o01;");
        DUE.is("the tenth line among them", x.curtains(), 2 + 32 + 512);
    }

    private static void moved() {
        MaynotBeSeen x = Due.told("tt0;tt0;tt0;o12;");
        DUE.is("one", x.moved(0), 1);
        DUE.is("the first of one", x.moved(1), 11);
        DUE.is("nothing is moved", x.thing(1, 1), 0);
        x = Due.told("l01;tt0;tt1;o01;");
        DUE.is("the first of one, past a line", x.moved(1), 2);
        x = Due.told("tt0;tt0;tt0;tt0;o01;o23;");
        DUE.is("two", x.moved(0), 2);
        DUE.is("no first of two", x.moved(1), -9);
        x = Due.told("tt0;".repeat(6) + "o01;o23;o45;");
        DUE.is("three are too many", x.moved(0), -9);
        DUE.is("no first of three", x.moved(1), -9);
        x = Due.told("tt0;tn0;o01;");
        DUE.is("none by day", x.moved(0), 0);
        DUE.is("no first of none", x.moved(1), -9);
        x.hour(7);
        DUE.is("one by night", x.moved(0), 1);
        DUE.is("the first by night", x.moved(1), 1);
        DUE.is("moved(2)", x.moved(2), -2);
        DUE.is("moved(-1)", x.moved(-1), -2);
        x = Due.told("l12;l20;l03;l34;l05;tt0;tt0;o01;");
        DUE.is("both of a pair", x.moved(0), 2);
        DUE.is("no first of both", x.moved(1), -9);
        x = Due.told("l01;l02;l03;l04;l05;tt0;tt0;o01;");
        DUE.is("all rooms see room 0", x.moved(0), -9);
    }

    /** Room 2 sees room 3 through a curtain: the bright one there is seen with what room 3 sees. */
    private static void feasts() {
        String house = "l13;l23;c1;tb0;tw1;o01;";
        MaynotBeSeen x = Due.told(house);
        DUE.is("the wrapped one first", x.feast(2, 0), 1);
        DUE.is("the first of it", x.feast(2, 1), 1);
        DUE.is("nothing is carried", x.thing(0, 1) + 10 * x.thing(1, 1), 10);
        x = Due.told(house, "tt5;");
        DUE.is("with one more", x.feast(2, 0), 3);
        DUE.is("the first with one more", x.feast(2, 1), 1);
        x = Due.told("tt5;l13;l23;c1;tb0;tw1;o12;");
        DUE.is("with one more ahead", x.feast(2, 0), 3);
        DUE.is("the first with one more ahead", x.feast(2, 1), 0);
        DUE.is("all of seven", Due.told("tt0;".repeat(7)).feast(0, 0), 5040);
        x = Due.told("tt0;tt1;o01;");
        DUE.is("a sin behind all", x.feast(2, 0), 0);
        DUE.is("no first", x.feast(2, 1), -9);
        DUE.is("a sin ahead of all", Due.told("l01;tt0;tw1;o01;").feast(5, 0), 0);
        x = Due.told("tt0;tn1;o01;");
        DUE.is("by day", x.feast(2, 0), 2);
        DUE.is("the first by day", x.feast(2, 1), 0);
        x.hour(6);
        DUE.is("by night", x.feast(2, 0), 0);
        x = new MaynotBeSeen();
        DUE.is("without things", x.feast(0, 0), 1);
        DUE.is("no first without things", x.feast(0, 1), -9);
    }

    private static void feastRefusals() {
        MaynotBeSeen x = Due.told("tt0;".repeat(8));
        DUE.is("feast(6, 2) of eight", x.feast(6, 2), -1);
        DUE.is("feast(-1, 0) of eight", x.feast(-1, 0), -1);
        DUE.is("feast(0, 2) of eight", x.feast(0, 2), -2);
        DUE.is("feast(0, -1) of eight", x.feast(0, -1), -2);
        DUE.is("feast(0, 0) of eight", x.feast(0, 0), -3);
        DUE.is("feast(5, 1) of eight", x.feast(5, 1), -3);
        DUE.is("refused by state", x.count(13), 2);
    }

    private static void rows() {
        MaynotBeSeen x = new MaynotBeSeen();
        DUE.is("row(-1)", x.row(-1), -4);
        DUE.is("row(100)", x.row(100), -6);
        for (int i = 1; i <= 12; i++) {
            DUE.is("row " + i, x.row(i == 12 ? 99 : 0), i);
        }
        DUE.is("row 13", x.row(0), -6);
        DUE.is("row 13 below", x.row(-1), -4);
        DUE.is("count(6)", x.count(6), 12);
        DUE.is("judge()", x.judge(), 0);
        DUE.is("count(6) behind it", x.count(6), 0);
        DUE.is("judge() of none", x.judge(), -9);
        DUE.is("row again", x.row(0), 1);
    }

    private static int judge(MaynotBeSeen x, int... moves) {
        for (int move : moves) {
            x.row(move);
        }
        return x.judge();
    }

    private static void judged() {
        MaynotBeSeen x = Due.told("tt0;tt1;o01;");
        DUE.is("a sin at once", judge(x, 1), 0);
        DUE.is("no sin", judge(x, 2, 3, 11, 15), -9);
        DUE.is("a sin in the third", judge(x, 2, 14, 4, 5), 2);
        DUE.is("no such room", judge(x, 2, 6), 1);
        DUE.is("no such room of the last digit", judge(x, 2, 3, 19), 2);
        DUE.is("no such thing", judge(x, 20), 0);
        DUE.is("no such thing behind others", judge(x, 2, 14, 99), 2);
        DUE.is("nothing is moved", x.thing(0, 1) + 10 * x.thing(1, 1), 10);
        DUE.is("nothing is refused", x.count(11), 0);
        x.move(1, 0);
        DUE.is("a sin that the first move ends", judge(x, 2), -9);
        DUE.is("a sin that the first move leaves", judge(x, 0, 2), 0);
    }

    private static void judgedByHours() {
        MaynotBeSeen x = Due.told("h7;tt0;tn0;tt5;o01;");
        DUE.is("the sixth hour", judge(x, 25, 25, 25, 25, 25, 25, 25), 6);
        DUE.is("up to the fifth", judge(x, 25, 25, 25, 25, 25, 25), -9);
        DUE.is("the ninth move in hour 7", judge(x, 1, 1, 1, 1, 1, 1, 1, 1, 1, 0), 9);
        DUE.is("the twelfth move in hour 7", judge(x, 1, 1, 1, 1, 1, 1, 1, 1, 1, 1, 1, 0), 11);
        x = Due.told("tt0;ts0;o01;");
        DUE.is("noon", judge(x, 0, 0, 0, 0, 0), 4);
        DUE.is("noon alone", judge(x, 0, 0, 0, 0, 1, 0, 0, 0, 0, 0, 0, 0), -9);
    }

    private static void seeds() {
        MaynotBeSeen x = Due.told("tt0;tt1;o01;");
        DUE.is("seeds(0, 0)", x.seeds(0, 0), -4);
        DUE.is("seeds(31, 0)", x.seeds(31, 0), -6);
        DUE.is("seeds(-1, 0)", x.seeds(-1, 0), -4);
        for (int n = 1; n <= 30; n++) {
            for (int z : new int[] {0, 1, 7, -1, 12345, Integer.MIN_VALUE, Integer.MAX_VALUE}) {
                DUE.is("seeds(" + n + ", " + z + ")", x.seeds(n, z), sinsOfTwo(n, z));
            }
        }
        DUE.is("nothing is moved", x.thing(0, 1) + 10 * x.thing(1, 1), 10);
        x = Due.told("tt0;tn0;o01;");
        DUE.is("seeds by day", x.seeds(30, 5), 0);
        x = new MaynotBeSeen();
        DUE.is("seeds(0, 0) without things", x.seeds(0, 0), -4);
        DUE.is("seeds(31, 0) without things", x.seeds(31, 0), -6);
        DUE.is("seeds(1, 0) without things", x.seeds(1, 0), -3);
    }

    /** How often two things from rooms 0 and 1 stand in one room behind a draw, without lines. */
    private static int sinsOfTwo(int n, int z) {
        int[] rooms = {0, 1};
        int found = 0;
        long seed = z & 0xFFFFFFFFL;
        for (int i = 0; i < n; i++) {
            seed = (seed * 1664525L + 1013904223L) & 0xFFFFFFFFL;
            int thing = (int) ((seed & 0x7FFFFFFFL) / 256 % 2);
            seed = (seed * 1664525L + 1013904223L) & 0xFFFFFFFFL;
            rooms[thing] = (int) ((seed & 0x7FFFFFFFL) / 256 % 6);
            if (rooms[0] == rooms[1]) {
                found++;
            }
        }
        return found;
    }
}
