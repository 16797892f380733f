import java.util.ArrayList;
import java.util.List;

/**
 * The paragraph on the refusals: each that a call can answer, alone and where two or three would fit, in an
 * object with nothing in it, one with something of all, and one that is full. A twin without the refused
 * call answers all else alike, so nothing changes but how many refusals there were.
 */
public final class RefusalTest {
    private static final String[] NOTHING = {};
    private static final String[] SOMETHING = {"l01;l12;l34;c1;tt0;tw1;ts2;tb3;o01;h2;", "together(6)", "image()",
        "m05;tn4;l05;", "together(17)", "row(11)", "row(2)", "+h6;"};
    private static final String[] FULL = {"l01;l02;l03;l04;l05;l12;l13;l14;l15;l23;",
        "tt0;tw1;ts2;tb3;tn4;tm5;tt2;tw3;", "o07;o16;o25;o34;h7;c0;c9;", "together(129)", "together(3)", "together(12)",
        "together(0)", "together(0)", "together(0)", "together(0)", "together(66)", "image()", "m00;m13;h4;o01;",
        "row(5)", "row(13)", "row(22)", "row(31)", "row(45)", "row(54)", "row(60)", "row(71)", "row(5)", "row(14)",
        "row(22)", "row(99)", "+" + "m00;".repeat(20)};

    private static final Due DUE = new Due();

    public static void main(String[] args) {
        inNothing();
        inSomething();
        inFull();
        faults();
        answersThatAreNone();
        DUE.end();
    }

    private static void inNothing() {
        refused(NOTHING, -1, "thing(0,0)", "thing(0,3)", "line(0,0)", "line(0,3)", "curtain(0)", "move(0,0)", "move(0,6)");
        refused(NOTHING, -1, "pair(0,1)", "pair(0,0)", "seen(6,0)", "seen(-1,-1)", "seen(6,8)", "from(0,0)", "from(0,8)");
        refused(NOTHING, -1, "given(0)", "together(1)", "together(-1)", "may(0)", "feast(6,0)", "feast(-1,2)", "clean(0)");
        refused(NOTHING, -2, "sins(0,2)", "sins(7,-1)", "moved(2)", "moved(-1)", "pairings(2)", "pairings(-1)", "feast(0,2)");
        refused(NOTHING, -3, "seeds(1,0)", "seeds(30,MAX)", "on()");
        refused(NOTHING, -4, "letter(-1)", "hour(-1)", "seen(0,-1)", "sins(-1,0)", "sins(-1,2)", "row(-1)", "seeds(0,0)");
        refused(NOTHING, -6, "letter(256)", "hour(8)", "seen(0,8)", "sins(8,0)", "sins(8,2)", "row(100)", "seeds(31,0)");
    }

    private static void inSomething() {
        refused(SOMETHING, -1, "thing(5,0)", "thing(-1,2)", "thing(5,3)", "line(4,0)", "line(-1,2)", "line(4,3)");
        refused(SOMETHING, -1, "curtain(4)", "curtain(-1)", "curtain(32)", "move(5,0)", "move(0,6)", "move(0,-1)", "move(5,6)");
        refused(SOMETHING, -1, "pair(0,5)", "pair(5,0)", "pair(0,0)", "pair(4,4)", "pair(5,5)", "pair(-1,0)", "pair(0,-1)");
        refused(SOMETHING, -1, "seen(6,2)", "seen(-1,2)", "seen(6,-1)", "seen(-1,8)", "from(5,2)", "from(-1,2)", "from(5,8)");
        refused(SOMETHING, -1, "given(5)", "given(-1)", "together(32)", "together(33)", "together(-1)", "together(MIN)");
        refused(SOMETHING, -1, "may(5)", "may(-1)", "feast(6,0)", "feast(-1,1)", "feast(6,2)", "clean(5)", "clean(-1)");
        refused(SOMETHING, -2, "thing(0,3)", "thing(4,-1)", "line(0,3)", "line(3,-1)", "sins(2,2)", "sins(2,-1)");
        refused(SOMETHING, -2, "moved(2)", "moved(MIN)", "pairings(2)", "pairings(MAX)", "feast(0,2)", "feast(5,-1)");
        refused(SOMETHING, -3, "given(0)", "given(1)");
        refused(SOMETHING, -4, "letter(-1)", "hour(-1)", "seen(0,-1)", "from(4,-1)", "sins(-1,1)", "sins(-1,2)", "row(-1)");
        refused(SOMETHING, -4, "seeds(0,0)", "seeds(MIN,MIN)");
        refused(SOMETHING, -6, "letter(256)", "hour(8)", "seen(0,8)", "from(4,8)", "sins(8,1)", "sins(8,2)", "row(100)");
        refused(SOMETHING, -6, "seeds(31,0)", "seeds(MAX,MAX)");
    }

    private static void inFull() {
        refused(FULL, -1, "thing(8,0)", "thing(8,3)", "line(10,0)", "line(10,3)", "curtain(10)", "move(8,0)", "move(7,6)");
        refused(FULL, -1, "pair(7,8)", "pair(8,7)", "pair(7,7)", "from(8,0)", "given(8)", "may(8)", "clean(8)");
        refused(FULL, -1, "together(256)", "together(-1)", "feast(6,0)", "feast(6,2)", "feast(-1,0)");
        refused(FULL, -2, "thing(7,3)", "line(9,3)", "sins(7,2)", "moved(2)", "pairings(2)", "feast(0,2)", "feast(5,-1)");
        refused(FULL, -3, "given(0)", "given(5)", "feast(0,0)", "feast(5,1)");
        refused(FULL, -4, "letter(-1)", "letter(MIN)", "row(-1)", "row(MIN)");
        refused(FULL, -6, "letter(0)", "letter(255)", "letter(256)", "row(0)", "row(99)", "row(100)", "together(0)", "together(255)");
    }

    /** A fault is no refusal: but for the letters, which are no more, all is as in the twin. */
    private static void faults() {
        for (String text : new String[] {"+h5;m00;tt0;x", "+h5;m00;tt0;l", "+h5;m00;tt0;h8;"}) {
            MaynotBeSeen x = made(SOMETHING);
            MaynotBeSeen twin = made(SOMETHING);
            x.house();
            twin.house();
            tell(x, text);
            DUE.is("a fault: " + text, x.house() <= -1000 ? 1 : 0, 1);
            alike("a fault: " + text, x, twin, 0);
        }
    }

    /** Answers of -9, and of nothing in a row, are no refusals. */
    private static void answersThatAreNone() {
        for (String call : new String[] {"day()", "sins(0,1)", "moved(1)", "pairings(1)", "feast(0,1)", "count(10)", "judge()"}) {
            MaynotBeSeen x = new MaynotBeSeen();
            DUE.is(call, Script.call(x, call), -9);
            alike(call, x, new MaynotBeSeen(), 0);
        }
    }

    private static MaynotBeSeen made(String[] words) {
        MaynotBeSeen x = new MaynotBeSeen();
        for (String word : words) {
            tell(x, word);
        }
        return x;
    }

    private static void tell(MaynotBeSeen x, String word) {
        if (word.charAt(0) == '+') {
            word.chars().skip(1).forEach(x::letter);
        } else if (word.indexOf('(') >= 0) {
            DUE.is(word + " is answered", Script.call(x, word) >= 0 ? 1 : 0, 1);
        } else {
            DUE.is(word + " is without fault", Due.tell(x, word), word.chars().filter(c -> c == ';').count());
        }
    }

    private static void refused(String[] words, int number, String... calls) {
        for (String call : calls) {
            MaynotBeSeen x = made(words);
            DUE.is("refused: " + call, Script.call(x, call), number);
            alike("refused: " + call, x, made(words), number);
        }
    }

    /** Whether two answer all alike, but for one refusal more of a number. */
    private static void alike(String what, MaynotBeSeen x, MaynotBeSeen twin, int number) {
        for (String call : probes()) {
            int more = call.equals("count(" + (10 - number) + ")") ? 1 : 0;
            DUE.is(what + ", then " + call, Script.call(x, call), Script.call(twin, call) + more);
        }
    }

    /** Calls that tell all that an object holds; the last ones change it, and tell what was behind that. */
    private static List<String> probes() {
        List<String> calls = new ArrayList<>();
        for (int refusal = 11; refusal <= 16; refusal++) {
            calls.add("count(" + refusal + ")");
        }
        held(calls);
        calls.addAll(List.of("ways()", "may(0)", "may(1)", "may(4)", "judge()", "house()", "day()"));
        held(calls);
        calls.addAll(List.of("on()", "ways()", "may(1)"));
        held(calls);
        return calls;
    }

    private static void held(List<String> calls) {
        for (int what = 0; what <= 7; what++) {
            calls.add("count(" + what + ")");
        }
        for (int t = 0; t < 8; t++) {
            calls.add("thing(" + t + ",1)");
            calls.add("thing(" + t + ",2)");
            calls.add("from(" + t + ",4)");
        }
        for (int l = 0; l < 10; l++) {
            calls.add("line(" + l + ",2)");
        }
    }
}
