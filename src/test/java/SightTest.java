/** Promises 10 to 13, 16 and 22: what is seen from where, by kinds and hours, and what is a sin. */
public final class SightTest {
    private static final Due DUE = new Due();

    public static void main(String[] args) {
        fromWhere();
        mirrors();
        seenThings();
        sins();
        days();
        given();
        clean();
        DUE.end();
    }

    /** All stand in room 0, to which line 0 leads from room 1 and line 1, with a curtain, from 2. */
    private static void fromWhere() {
        MaynotBeSeen x = Due.told("l01;l02;c1;l34;tt0;tw0;ts0;tb0;tn0;tm0;");
        int[][] due = {
            {3, 3, 3, 3, 3, 3, 3, 3},
            {2, 2, 2, 2, 2, 2, 2, 2},
            {2, 2, 2, 2, 3, 2, 2, 2},
            {7, 7, 7, 7, 7, 7, 7, 7},
            {0, 0, 0, 0, 0, 0, 3, 3},
            {7, 7, 7, 7, 7, 7, 7, 7}};
        for (int t = 0; t < 6; t++) {
            for (int h = 0; h < 8; h++) {
                DUE.is("from(" + t + ", " + h + ")", x.from(t, h), due[t][h]);
            }
        }
        x.curtain(0);
        DUE.is("a thing behind curtains", x.from(0, 0), 1);
        DUE.is("a wrapped one behind curtains", x.from(1, 0), 0);
        DUE.is("a bright one behind curtains", x.from(3, 0), 7);
        x.move(0, 4);
        DUE.is("a thing moved to room 4", x.from(0, 0), 24);
        DUE.is("from(6, 0)", x.from(6, 0), -1);
        DUE.is("from(-1, 8)", x.from(-1, 8), -1);
        DUE.is("from(0, -1)", x.from(0, -1), -4);
        DUE.is("from(0, 8)", x.from(0, 8), -6);
    }

    private static void mirrors() {
        MaynotBeSeen x = Due.told("l01;c0;l12;tm0;tm0;tt1;");
        DUE.is("a mirror alone, through a curtain", x.from(0, 0), 3);
        x.move(2, 0);
        DUE.is("a mirror with a thing", x.from(0, 0), 3);
        x.move(0, 1);
        DUE.is("a mirror in room 1", x.from(0, 0), 7);
        x.move(0, 5);
        DUE.is("a mirror in a room without lines", x.from(0, 0), 32);
    }

    private static void seenThings() {
        MaynotBeSeen x = Due.told("l01;l02;c1;tt0;tw0;ts0;tb0;tn0;tt1;");
        DUE.is("seen(0, 0)", x.seen(0, 0), 1 + 8 + 32);
        DUE.is("seen(0, 4)", x.seen(0, 4), 1 + 4 + 8 + 32);
        DUE.is("seen(0, 6)", x.seen(0, 6), 1 + 8 + 16 + 32);
        DUE.is("seen(1, 0)", x.seen(1, 0), 1 + 2 + 4 + 8 + 32);
        DUE.is("seen(1, 7)", x.seen(1, 7), 63);
        DUE.is("seen(2, 7)", x.seen(2, 7), 8);
        DUE.is("seen(5, 7)", x.seen(5, 7), 0);
        DUE.is("seen(6, 0)", x.seen(6, 0), -1);
        DUE.is("seen(-1, 0)", x.seen(-1, 0), -1);
        DUE.is("seen(6, 8)", x.seen(6, 8), -1);
        DUE.is("seen(0, 8)", x.seen(0, 8), -6);
        DUE.is("seen(0, -1)", x.seen(0, -1), -4);
    }

    private static void sins() {
        MaynotBeSeen x = Due.told("l01;l12;tt5;tt0;tt2;tn0;tt0;o21;o34;");
        DUE.is("sins(0, 0)", x.sins(0, 0), 1);
        DUE.is("sins(0, 1)", x.sins(0, 1), 12);
        DUE.is("sins(6, 0)", x.sins(6, 0), 2);
        DUE.is("sins(6, 1)", x.sins(6, 1), 12);
        x.curtain(1);
        DUE.is("sins(0, 0) with a curtain", x.sins(0, 0), 0);
        DUE.is("sins(0, 1) with a curtain", x.sins(0, 1), -9);
        DUE.is("sins(7, 0) with a curtain", x.sins(7, 0), 1);
        DUE.is("sins(7, 1) with a curtain", x.sins(7, 1), 34);
        x.pair(4, 0);
        DUE.is("sins(7, 0) unpaired", x.sins(7, 0), 0);
        DUE.is("sins(8, 0)", x.sins(8, 0), -6);
        DUE.is("sins(8, 2)", x.sins(8, 2), -6);
        DUE.is("sins(-1, 2)", x.sins(-1, 2), -4);
        DUE.is("sins(0, 2)", x.sins(0, 2), -2);
        DUE.is("sins(0, -1)", x.sins(0, -1), -2);
    }

    private static void days() {
        DUE.is("day of a thing and a thing", Due.told("tt0;tt0;o01;").day(), 0);
        DUE.is("day of a thing and a shady one", Due.told("tt0;ts0;o01;").day(), 4);
        DUE.is("day of a thing and a nightly one", Due.told("h5;tt0;tn0;o01;").day(), 6);
        DUE.is("day of a shady and a nightly one", Due.told("ts0;tn0;o01;").day(), -9);
        DUE.is("day of a thing and a wrapped one", Due.told("tt0;tw0;o01;").day(), -9);
        DUE.is("day of those without others", Due.told("tt0;tt0;").day(), -9);
    }

    private static void given() {
        MaynotBeSeen x = Due.told("tt0;tt0;tw0;ts0;tn0;tt1;tt1;");
        x.pair(5, 6);
        DUE.is("given(0)", x.given(0), 4);
        DUE.is("given(2)", x.given(2), 1 + 2 + 8 + 16);
        DUE.is("given(3)", x.given(3), 4 + 16);
        DUE.is("given(4)", x.given(4), 4 + 8);
        DUE.is("given(5)", x.given(5), -3);
        DUE.is("given(7)", x.given(7), -1);
        DUE.is("given(-1)", x.given(-1), -1);
        x.move(1, 3);
        DUE.is("given(0) when 1 is away", x.given(0), 2 + 4);
        DUE.is("given to itself", Due.told("tw0;").given(0), 0);
    }

    private static void clean() {
        MaynotBeSeen x = Due.told("l12;tt0;ts1;o01;h2;");
        DUE.is("clean(0)", x.clean(0), 1 + 8 + 16 + 32);
        DUE.is("clean(1)", x.clean(1), 2 + 4 + 8 + 16 + 32);
        DUE.is("room of 0", x.thing(0, 1), 0);
        DUE.is("clean of a nightly one", Due.told("tt0;tn0;o01;").clean(1), 62);
        x = Due.told("tt0;tt0;tt5;o01;");
        DUE.is("clean(2) beside a sin", x.clean(2), 0);
        DUE.is("clean(3)", x.clean(3), -1);
        DUE.is("clean(-1)", x.clean(-1), -1);
    }
}
