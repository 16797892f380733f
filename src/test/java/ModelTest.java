import java.util.Random;

/** Promises 2 to 28: runs of calls drawn by fixed seeds, each answer compared with the model's. */
public final class ModelTest {
    private static final int RUNS = 600;
    private static final int[] EXTREMES = {Integer.MIN_VALUE, -1000, -2, 9, 32, 99, 100, 1 << 16, Integer.MAX_VALUE};
    private static final String[] FACE = {"", "", "letter", "house", "thing", "line", "curtain", "move", "pair",
        "hour", "seen", "from", "sins", "day", "curtains", "moved", "given", "pairings", "together", "may", "ways",
        "feast", "clean", "row", "judge", "seeds", "image", "on", "count"};

    private final Due due = new Due();
    private final Random random;
    private MaynotBeSeen x;
    private Model model;
    private int run;
    private int calls;

    private ModelTest(long seed) {
        random = new Random(seed);
    }

    public static void main(String[] args) {
        ModelTest test = new ModelTest(20261118);
        for (int run = 1; run <= RUNS; run++) {
            test.run(run);
        }
        test.due.end();
    }

    private void run(int number) {
        run = number;
        calls = 0;
        x = new MaynotBeSeen();
        model = new Model();
        if (random.nextInt(8) > 0) {
            start();
        }
        while (calls < 400) {
            step();
        }
    }

    private void step() {
        int promise = 2 + random.nextInt(27);
        switch (promise) {
            case 2:
                both(2, random.nextInt(9) == 0 ? random.nextInt(300) - 20 : "lctomh;01234567"
                        .charAt(random.nextInt(15)), 0);
                break;
            case 3:
                tell(random.nextInt(3) == 0 ? text() : "");
                break;
            case 18:
                both(18, random.nextInt(6) == 0 ? argument() : random.nextInt(256) & random.nextInt(256), 0);
                break;
            case 23:
                rowOfMoves();
                break;
            case 25:
                both(25, random.nextInt(34) - 1, random.nextInt());
                break;
            case 27:
                both(random.nextInt(4) == 0 ? 27 : 11, argument(), argument());
                break;
            case 28:
                both(28, random.nextInt(21) - 1, 0);
                break;
            default:
                both(promise, argument(), argument());
                break;
        }
    }

    private void rowOfMoves() {
        int moves = random.nextInt(14);
        for (int i = 0; i < moves; i++) {
            both(23, random.nextInt(30) == 0 ? random.nextInt(104) - 2
                    : 10 * random.nextInt(5) + random.nextInt(6), 0);
        }
        if (random.nextInt(3) > 0) {
            both(24, 0, 0);
        }
    }

    private int argument() {
        int kind = random.nextInt(24);
        if (kind == 0) {
            return EXTREMES[random.nextInt(EXTREMES.length)];
        }
        return kind < 4 ? random.nextInt(12) - 2 : random.nextInt(random.nextInt(6) + 1);
    }

    /** Houses that are mostly without fault, so that runs begin with much in them. */
    private void start() {
        StringBuilder text = new StringBuilder();
        int lines = random.nextInt(11);
        for (int i = 0; i < lines; i++) {
            int room = i % 5;
            text.append('l').append(room).append((room + 1 + i / 5 + 3 * random.nextInt(2)) % 6).append(';');
            if (random.nextInt(4) == 0) {
                text.append('c').append(i).append(';');
            }
        }
        tell(text.toString());
        text.setLength(0);
        int things = random.nextInt(9);
        for (int i = 0; i < things; i++) {
            text.append('t').append("ttwsbnm".charAt(random.nextInt(7))).append(random.nextInt(6)).append(';');
        }
        for (int i = 0; i + 1 < things; i += 2) {
            text.append('o').append(i).append(i + 1).append(';');
        }
        tell(text.toString());
    }

    private String text() {
        StringBuilder text = new StringBuilder();
        int statements = random.nextInt(7);
        for (int i = 0; i < statements; i++) {
            char first = "lcttomh".charAt(random.nextInt(7));
            text.append(first);
            if (first == 't') {
                text.append("twsbnm".charAt(random.nextInt(6)));
            } else {
                text.append(digit());
            }
            if (first != 'c' && first != 'h') {
                text.append(digit());
            }
            text.append(';');
        }
        if (text.length() > 0 && random.nextInt(4) == 0) {
            text.setCharAt(random.nextInt(text.length()), "lctomhwsbn;0589:/ ".charAt(random.nextInt(18)));
        }
        if (text.length() > 0 && random.nextInt(8) == 0) {
            text.setLength(random.nextInt(text.length()));
        }
        return text.toString();
    }

    private int digit() {
        return random.nextInt(20) == 0 ? random.nextInt(10) : random.nextInt(5);
    }

    private void tell(String text) {
        for (int i = 0; i < text.length(); i++) {
            both(2, text.charAt(i), 0);
        }
        both(3, 0, 0);
    }

    private void both(int promise, int a, int b) {
        if (calls < 512) {
            calls++;
            due.is("run " + run + ", call " + calls + ": " + FACE[promise] + "(" + a + ", " + b + ")",
                    call(promise, a, b), model.call(promise, a, b));
        }
    }

    private int call(int promise, int a, int b) {
        switch (promise) {
            case 2: return x.letter(a);
            case 3: return x.house();
            case 4: return x.thing(a, b);
            case 5: return x.line(a, b);
            case 6: return x.curtain(a);
            case 7: return x.move(a, b);
            case 8: return x.pair(a, b);
            case 9: return x.hour(a);
            case 10: return x.seen(a, b);
            case 11: return x.from(a, b);
            case 12: return x.sins(a, b);
            case 13: return x.day();
            case 14: return x.curtains();
            case 15: return x.moved(a);
            case 16: return x.given(a);
            case 17: return x.pairings(a);
            case 18: return x.together(a);
            case 19: return x.may(a);
            case 20: return x.ways();
            case 21: return x.feast(a, b);
            case 22: return x.clean(a);
            case 23: return x.row(a);
            case 24: return x.judge();
            case 25: return x.seeds(a, b);
            case 26: return x.image();
            case 27: return x.on();
            default: return x.count(a);
        }
    }
}
