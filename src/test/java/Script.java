import java.util.regex.Matcher;
import java.util.regex.Pattern;

/**
 * Runs of calls on a new object, told in words with blanks between: "h3;tt0; count(2)=3 12*row(0) row(MAX)=-6".
 * A word is a call, or the letters of a house that is told, or with a "+" ahead letters alone; perhaps with
 * how many times it comes ahead of it, and with the answer that is due behind it (a house without one must
 * be without fault).
 */
final class Script {
    private static final int MOST_CALLS = 512;
    private static final Pattern WORD = Pattern.compile("(?:(\\d+)\\*)?([^=*]+)(?:=(-?\\d+))?");
    private static final Pattern CALL = Pattern.compile("(\\w+)\\((?:([-\\w]+)(?:,([-\\w]+))?)?\\)");

    private final Due due;
    private MaynotBeSeen x;
    private int calls;

    Script(Due due) {
        this.due = due;
    }

    /** Runs the words, and tells what was to hold where an answer is not the one that is due. */
    void run(String sentence, String... words) {
        x = new MaynotBeSeen();
        calls = 0;
        for (String word : String.join(" ", words).trim().split(" +")) {
            Matcher m = WORD.matcher(word);
            if (!m.matches()) {
                throw new IllegalArgumentException(word);
            }
            int times = m.group(1) == null ? 1 : Integer.parseInt(m.group(1));
            for (int i = 0; i < times; i++) {
                step(sentence, m.group(2), m.group(3));
            }
        }
        due.is(sentence + ": at most 512 calls", Math.max(calls, MOST_CALLS), MOST_CALLS);
    }

    private void step(String sentence, String what, String answer) {
        if (what.charAt(0) == '+') {
            what.chars().skip(1).forEach(x::letter);
            calls += what.length() - 1;
            return;
        }
        boolean isHouse = what.indexOf('(') < 0;
        calls += isHouse ? what.length() + 1 : 1;
        int got = isHouse ? Due.tell(x, what) : call(x, what);
        if (answer != null) {
            due.is(sentence + ": " + what, got, Integer.parseInt(answer));
        } else if (isHouse && got <= 0) {
            due.is(sentence + ": " + what, got, what.chars().filter(c -> c == ';').count());
        }
    }

    /** What a call answers that is written out, as "move(0,5)"; MIN and MAX are the least and the greatest int. */
    static int call(MaynotBeSeen x, String call) {
        Matcher m = CALL.matcher(call);
        if (!m.matches()) {
            throw new IllegalArgumentException(call);
        }
        return call(x, m.group(1), number(m.group(2)), number(m.group(3)));
    }

    private static int number(String told) {
        if (told == null) {
            return 0;
        }
        if (told.equals("MIN")) {
            return Integer.MIN_VALUE;
        }
        return told.equals("MAX") ? Integer.MAX_VALUE : Integer.parseInt(told);
    }

    private static int call(MaynotBeSeen x, String name, int a, int b) {
        switch (name) {
            case "letter": return x.letter(a);
            case "house": return x.house();
            case "thing": return x.thing(a, b);
            case "line": return x.line(a, b);
            case "curtain": return x.curtain(a);
            case "move": return x.move(a, b);
            case "pair": return x.pair(a, b);
            case "hour": return x.hour(a);
            case "seen": return x.seen(a, b);
            case "from": return x.from(a, b);
            case "sins": return x.sins(a, b);
            case "day": return x.day();
            case "curtains": return x.curtains();
            case "moved": return x.moved(a);
            case "given": return x.given(a);
            case "pairings": return x.pairings(a);
            case "together": return x.together(a);
            case "may": return x.may(a);
            case "ways": return x.ways();
            case "feast": return x.feast(a, b);
            case "clean": return x.clean(a);
            case "row": return x.row(a);
            case "judge": return x.judge();
            case "seeds": return x.seeds(a, b);
            case "image": return x.image();
            case "on": return x.on();
            case "count": return x.count(a);
            default: throw new IllegalArgumentException(name);
        }
    }
}
