import java.util.ArrayList;
import java.util.Arrays;
import java.util.List;
import java.util.TreeSet;
import java.util.regex.Matcher;
import java.util.regex.Pattern;

/** The document's words done slowly and plainly, apart from the class, to compare it with. */
final class Model {
    /** What is told; an image of it is a copy. */
    private static final class State {
        final List<int[]> lines = new ArrayList<>();
        final List<int[]> things = new ArrayList<>();
        final List<Integer> sets = new ArrayList<>();
        int hour = 0;

        State copy() {
            State s = new State();
            lines.forEach(l -> s.lines.add(l.clone()));
            things.forEach(t -> s.things.add(t.clone()));
            s.sets.addAll(sets);
            s.hour = hour;
            return s;
        }
    }

    private static final Pattern STATEMENT = Pattern.compile("l\\d\\d;|c\\d;|t[twsbnm]\\d;|o\\d\\d;|m\\d\\d;|h\\d;");
    private static final String KINDS = "twsbnm";

    private State now = new State();
    private State image = null;
    private final StringBuilder letters = new StringBuilder();
    private final List<Integer> row = new ArrayList<>();
    private final int[] refused = new int[7];

    /** A call by its place in the document's face, its arguments in a and b. */
    int call(int promise, int a, int b) {
        switch (promise) {
            case 2: return letter(a);
            case 3: return house();
            case 4: return !isThing(a) ? no(-1) : b < 0 || b > 2 ? no(-2) : now.things.get(a)[b];
            case 5: return !isLine(a) ? no(-1) : b < 0 || b > 2 ? no(-2) : now.lines.get(a)[b];
            case 6: return !isLine(a) ? no(-1) : (now.lines.get(a)[2] = 1 - now.lines.get(a)[2]);
            case 7: return move(a, b);
            case 8: return !isThing(a) || !isThing(b) || a == b ? no(-1) : pair(now, a, b);
            case 9: return hour(a);
            case 10: return !isRoom(a) ? no(-1) : b < 0 ? no(-4) : b > 7 ? no(-6) : seen(a, b);
            case 11: return !isThing(a) ? no(-1) : b < 0 ? no(-4) : b > 7 ? no(-6) : bits(from(now, a, b));
            case 12: return sinsCall(a, b);
            case 13: return day(now);
            case 14: return curtains();
            case 15: return a != 0 && a != 1 ? no(-2) : moved(a);
            case 16: return given(a);
            case 17: return a != 0 && a != 1 ? no(-2) : pairings(a);
            case 18: return together(a);
            case 19: return may(a);
            case 20: return matchings(false).size();
            case 21: return feastCall(a, b);
            case 22: return clean(a);
            case 23: return row(a);
            case 24: return judge();
            case 25: return seeds(a, b);
            case 26: image = now.copy(); return now.things.size();
            case 27: return on();
            default: return count(a);
        }
    }

    private int no(int number) {
        refused[-number]++;
        return number;
    }

    private static boolean isRoom(int room) {
        return 0 <= room && room <= 5;
    }

    private boolean isThing(int thing) {
        return 0 <= thing && thing < now.things.size();
    }

    private boolean isLine(int line) {
        return 0 <= line && line < now.lines.size();
    }

    private static int bits(Iterable<Integer> numbers) {
        int bits = 0;
        for (int n : numbers) {
            bits |= 1 << n;
        }
        return bits;
    }

    private int letter(int c) {
        if (c < 0) {
            return no(-4);
        }
        if (c > 255 || letters.length() == 80) {
            return no(-6);
        }
        letters.append((char) c);
        return letters.length();
    }

    private int house() {
        String text = letters.toString();
        letters.setLength(0);
        int place = firstBad(text);
        if (place >= 0) {
            return -1000 - place;
        }
        State then = now.copy();
        int statements = 0;
        Matcher m = STATEMENT.matcher(text);
        while (m.find()) {
            if (!obey(then, m.group())) {
                return -2000 - m.start();
            }
            statements++;
        }
        now = then;
        return statements;
    }

    /** The place of the first letter behind which no text of statements can begin so; -1. */
    private static int firstBad(String text) {
        Pattern all = Pattern.compile("(" + STATEMENT.pattern() + ")+");
        for (int i = 0; i < text.length(); i++) {
            Matcher m = all.matcher(text.substring(0, i + 1));
            if (!m.matches() && !m.hitEnd()) {
                return i;
            }
        }
        return all.matcher(text).matches() ? -1 : text.length();
    }

    private static boolean obey(State s, String statement) {
        int a = statement.charAt(1) - '0';
        int b = statement.charAt(2) - '0';
        int things = s.things.size();
        switch (statement.charAt(0)) {
            case 'l':
                if (a > 5 || b > 5 || a == b || s.lines.size() == 10) {
                    return false;
                }
                for (int[] l : s.lines) {
                    if (l[0] == Math.min(a, b) && l[1] == Math.max(a, b)) {
                        return false;
                    }
                }
                return s.lines.add(new int[] {Math.min(a, b), Math.max(a, b), 0});
            case 'c':
                if (a >= s.lines.size()) {
                    return false;
                }
                s.lines.get(a)[2] ^= 1;
                return true;
            case 't':
                int kind = KINDS.indexOf(statement.charAt(1));
                return b <= 5 && things < 8 && s.things.add(new int[] {kind, b, -9});
            case 'o':
                if (a >= things || b >= things || a == b) {
                    return false;
                }
                pair(s, a, b);
                return true;
            case 'm':
                if (a >= things || b > 5) {
                    return false;
                }
                s.things.get(a)[1] = b;
                return true;
            default:
                if (a > 7) {
                    return false;
                }
                s.hour = a;
                return true;
        }
    }

    private int move(int thing, int room) {
        if (!isThing(thing) || !isRoom(room)) {
            return no(-1);
        }
        int was = now.things.get(thing)[1];
        now.things.get(thing)[1] = room;
        return was;
    }

    /** How many had an other before and have none behind it. */
    private static int pair(State s, int one, int other) {
        List<int[]> had = new ArrayList<>(s.things);
        had.removeIf(t -> t[2] < 0);
        for (int[] t : s.things) {
            if (t[2] == one || t[2] == other) {
                t[2] = -9;
            }
        }
        s.things.get(one)[2] = other;
        s.things.get(other)[2] = one;
        had.removeIf(t -> t[2] >= 0);
        return had.size();
    }

    private int hour(int v) {
        if (v < 0 || v > 7) {
            return no(v < 0 ? -4 : -6);
        }
        int was = now.hour;
        now.hour = v;
        return was;
    }

    private static TreeSet<Integer> beyond(State s, int room, boolean throughCurtains) {
        TreeSet<Integer> rooms = new TreeSet<>();
        for (int[] l : s.lines) {
            if (l[2] == 0 || throughCurtains) {
                if (l[0] == room) {
                    rooms.add(l[1]);
                }
                if (l[1] == room) {
                    rooms.add(l[0]);
                }
            }
        }
        return rooms;
    }

    private static TreeSet<Integer> from(State s, int thing, int hour) {
        char kind = KINDS.charAt(s.things.get(thing)[0]);
        int own = s.things.get(thing)[1];
        TreeSet<Integer> rooms = beyond(s, own, kind == 'b' || kind == 'm');
        rooms.add(own);
        if (kind == 'w' || kind == 's' && hour != 4) {
            rooms.remove(own);
        }
        if (kind == 'n' && hour != 6 && hour != 7) {
            rooms.clear();
        }
        if (kind == 'm') {
            for (int t = 0; t < s.things.size(); t++) {
                if (s.things.get(t)[1] == own && KINDS.charAt(s.things.get(t)[0]) != 'm') {
                    rooms.addAll(from(s, t, hour));
                }
            }
        }
        return rooms;
    }

    private int seen(int room, int hour) {
        List<Integer> things = new ArrayList<>();
        for (int t = 0; t < now.things.size(); t++) {
            if (from(now, t, hour).contains(room)) {
                things.add(t);
            }
        }
        return bits(things);
    }

    private static boolean together(State s, int one, int other, int hour) {
        return (bits(from(s, one, hour)) & bits(from(s, other, hour))) != 0;
    }

    private static List<Integer> sins(State s, int hour) {
        List<Integer> sins = new ArrayList<>();
        for (int i = 0; i < s.things.size(); i++) {
            for (int j = i + 1; j < s.things.size(); j++) {
                if (s.things.get(i)[2] == j && together(s, i, j, hour)) {
                    sins.add(10 * i + j);
                }
            }
        }
        return sins;
    }

    private int sinsCall(int hour, int what) {
        if (hour < 0) {
            return no(-4);
        }
        if (hour > 7) {
            return no(-6);
        }
        List<Integer> sins = sins(now, hour);
        if (what == 0) {
            return sins.size();
        }
        return what != 1 ? no(-2) : sins.isEmpty() ? -9 : sins.get(0);
    }

    private static int day(State s) {
        for (int h = 0; h < 8; h++) {
            if (!sins(s, h).isEmpty()) {
                return h;
            }
        }
        return -9;
    }

    private int curtains() {
        int lines = now.lines.size();
        for (int few = 0; few <= lines; few++) {
            for (int mask = 0; mask < 1 << lines; mask++) {
                if (Integer.bitCount(mask) == few) {
                    State s = now.copy();
                    for (int l = 0; l < lines; l++) {
                        s.lines.get(l)[2] = mask >> l & 1;
                    }
                    if (sins(s, s.hour).isEmpty()) {
                        return mask;
                    }
                }
            }
        }
        return -9;
    }

    /** How the things can stand so that just some of them are in another room. */
    private static List<State> movings(State s, int few, int least) {
        List<State> all = new ArrayList<>();
        if (few == 0) {
            all.add(s);
            return all;
        }
        for (int t = least; t < s.things.size(); t++) {
            for (int r = 0; r < 6; r++) {
                if (r != s.things.get(t)[1]) {
                    State then = s.copy();
                    then.things.get(t)[1] = r;
                    all.addAll(movings(then, few - 1, t + 1));
                }
            }
        }
        return all;
    }

    private int moved(int what) {
        for (int few = 0; few <= 2; few++) {
            for (State s : movings(now, few, 0)) {
                if (sins(s, s.hour).isEmpty()) {
                    return what == 0 ? few : few == 1 ? theOneMoved(s) : -9;
                }
            }
        }
        return -9;
    }

    private int theOneMoved(State s) {
        for (int t = 0; t < s.things.size(); t++) {
            if (s.things.get(t)[1] != now.things.get(t)[1]) {
                return 10 * t + s.things.get(t)[1];
            }
        }
        throw new IllegalStateException("none is moved");
    }

    private int given(int thing) {
        if (!isThing(thing)) {
            return no(-1);
        }
        if (now.things.get(thing)[2] >= 0) {
            return no(-3);
        }
        List<Integer> fit = new ArrayList<>();
        for (int t = 0; t < now.things.size(); t++) {
            boolean fits = t != thing && now.things.get(t)[2] < 0;
            for (int h = 0; h < 8; h++) {
                fits &= !together(now, thing, t, h);
            }
            if (fits) {
                fit.add(t);
            }
        }
        return bits(fit);
    }

    /** All ways to give all things others, in their order, as rows of others; by sight or by sets. */
    private List<int[]> matchings(boolean bySight) {
        int[] others = new int[now.things.size()];
        Arrays.fill(others, -9);
        List<int[]> found = new ArrayList<>();
        match(others, bySight, found);
        return found;
    }

    private void match(int[] others, boolean bySight, List<int[]> found) {
        int least = 0;
        while (least < others.length && others[least] >= 0) {
            least++;
        }
        if (least == others.length) {
            found.add(others.clone());
            return;
        }
        for (int o = least + 1; o < others.length; o++) {
            if (others[o] < 0 && (bySight ? !together(now, least, o, now.hour) : apart(least, o))) {
                others[least] = o;
                others[o] = least;
                match(others, bySight, found);
                others[least] = -9;
                others[o] = -9;
            }
        }
    }

    private boolean apart(int one, int other) {
        for (int set : now.sets) {
            if ((set >> one & 1) == 1 && (set >> other & 1) == 1) {
                return false;
            }
        }
        return true;
    }

    private int pairings(int what) {
        List<int[]> all = matchings(true);
        if (what == 0) {
            return all.size();
        }
        return all.isEmpty() || now.things.isEmpty() ? -9 : all.get(0)[0];
    }

    private int together(int things) {
        for (int bit = 0; bit < 32; bit++) {
            if ((things >>> bit & 1) == 1 && bit >= now.things.size()) {
                return no(-1);
            }
        }
        if (now.sets.size() == 8) {
            return no(-6);
        }
        now.sets.add(things);
        return now.sets.size();
    }

    private int may(int thing) {
        if (!isThing(thing)) {
            return no(-1);
        }
        TreeSet<Integer> others = new TreeSet<>();
        for (int[] way : matchings(false)) {
            others.add(way[thing]);
        }
        return bits(others);
    }

    private int feastCall(int room, int what) {
        if (!isRoom(room)) {
            return no(-1);
        }
        if (what != 0 && what != 1) {
            return no(-2);
        }
        if (now.things.size() == 8) {
            return no(-3);
        }
        List<List<Integer>> orders = new ArrayList<>();
        carry(now, room, new ArrayList<>(), orders);
        if (what == 0) {
            return orders.size();
        }
        return orders.isEmpty() || now.things.isEmpty() ? -9 : orders.get(0).get(0);
    }

    private static void carry(State s, int room, List<Integer> carried, List<List<Integer>> orders) {
        if (!sins(s, s.hour).isEmpty()) {
            return;
        }
        if (carried.size() == s.things.size()) {
            orders.add(carried);
            return;
        }
        for (int t = 0; t < s.things.size(); t++) {
            if (!carried.contains(t)) {
                State then = s.copy();
                then.things.get(t)[1] = room;
                List<Integer> more = new ArrayList<>(carried);
                more.add(t);
                carry(then, room, more, orders);
            }
        }
    }

    private int clean(int thing) {
        if (!isThing(thing)) {
            return no(-1);
        }
        List<Integer> rooms = new ArrayList<>();
        for (int r = 0; r < 6; r++) {
            State s = now.copy();
            s.things.get(thing)[1] = r;
            if (day(s) == -9) {
                rooms.add(r);
            }
        }
        return bits(rooms);
    }

    private int row(int v) {
        if (v < 0) {
            return no(-4);
        }
        if (v > 99 || row.size() == 12) {
            return no(-6);
        }
        row.add(v);
        return row.size();
    }

    private int judge() {
        List<Integer> moves = new ArrayList<>(row);
        row.clear();
        State s = now.copy();
        for (int k = 0; k < moves.size(); k++) {
            int thing = moves.get(k) / 10;
            int room = moves.get(k) % 10;
            if (!isThing(thing) || !isRoom(room)) {
                return k;
            }
            s.things.get(thing)[1] = room;
            if (!sins(s, k < 8 ? k : 7).isEmpty()) {
                return k;
            }
        }
        return -9;
    }

    private int seeds(int n, int z) {
        if (n < 1 || n > 30) {
            return no(n < 1 ? -4 : -6);
        }
        if (now.things.isEmpty()) {
            return no(-3);
        }
        State s = now.copy();
        int found = 0;
        int[] seed = {z};
        for (int i = 0; i < n; i++) {
            int thing = draw(seed, s.things.size());
            s.things.get(thing)[1] = draw(seed, 6);
            found += sins(s, s.hour).isEmpty() ? 0 : 1;
        }
        return found;
    }

    private static int draw(int[] seed, int below) {
        seed[0] = (int) (seed[0] * 1664525L + 1013904223L);
        long unsigned = seed[0] & 0xFFFFFFFFL;
        return (int) (unsigned % 0x80000000L / 256 % below);
    }

    private int on() {
        if (image == null) {
            return no(-3);
        }
        now = image.copy();
        return now.things.size();
    }

    private int count(int what) {
        switch (what) {
            case 0: return now.things.size();
            case 1: return now.lines.size();
            case 2: return now.hour;
            case 3: return (int) now.lines.stream().filter(l -> l[2] == 1).count();
            case 4: return (int) now.things.stream().filter(t -> t[2] >= 0).count();
            case 5: return now.sets.size();
            case 6: return row.size();
            case 7: return letters.length();
            default: return what >= 11 && what <= 16 ? refused[what - 10] : -9;
        }
    }
}
