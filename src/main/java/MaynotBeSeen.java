/**
 * Things of kinds stand in rooms with lines of sight, each perhaps with an other with which it
 * must never be in one sight. ../shared/DOC.md says what every call answers.
 *
 * No call makes an object: all that a call needs is made with the object itself, since every
 * object that a run makes stays in its one room.
 */
public final class MaynotBeSeen {
    private static final int ROOMS = 6;
    private static final int HOURS = 8;
    private static final int NOON = 4;
    private static final int NIGHT = 6;
    private static final int MOST_LINES = 10;
    private static final int MOST_THINGS = 8;
    private static final int MOST_LETTERS = 80;
    private static final int MOST_SETS = 8;
    private static final int MOST_IN_ROW = 12;
    private static final int MOST_CARRIED = 7;
    private static final int MOST_SEEDED = 30;
    private static final int LAST_LETTER = 255;
    private static final int LAST_MOVE = 99;

    private static final int THING = 0;
    private static final int WRAPPED = 1;
    private static final int SHADY = 2;
    private static final int BRIGHT = 3;
    private static final int NIGHTLY = 4;
    private static final int MIRROR = 5;

    private static final int NOBODY = -1;
    private static final int OTHER = -2;
    private static final int STATE = -3;
    private static final int BELOW = -4;
    private static final int OVER = -6;
    private static final int NONE = -9;

    private static final int UNREADABLE = -1000;
    private static final int WRONG = -2000;

    private final House now = new House();
    private final House mind = new House();
    private final House kept = new House();
    private boolean isKept = false;
    private final Text text = new Text();
    private final Givings givings = new Givings();
    private final int[] orders = new int[1 << MOST_CARRIED];
    private final int[] moves = new int[MOST_IN_ROW];
    private int moveCount = 0;
    private final int[] refusals = new int[1 - OVER];

    public MaynotBeSeen() {
    }

    public int letter(int c) {
        int fault = outOf(c, 0, LAST_LETTER);
        if (fault != 0) {
            return refuse(fault);
        }
        if (text.size >= MOST_LETTERS) {
            return refuse(OVER);
        }
        return text.put(c);
    }

    public int house() {
        mind.become(now);
        int answer = text.readInto(mind);
        if (answer > 0) {
            now.become(mind);
        }
        text.size = 0;
        return answer;
    }

    public int thing(int thing, int what) {
        if (!now.hasThing(thing)) {
            return refuse(NOBODY);
        }
        switch (what) {
            case 0:
                return now.kinds[thing];
            case 1:
                return now.rooms[thing];
            case 2:
                return now.others[thing];
            default:
                return refuse(OTHER);
        }
    }

    public int line(int line, int what) {
        if (!now.hasLine(line)) {
            return refuse(NOBODY);
        }
        switch (what) {
            case 0:
                return now.lesser[line];
            case 1:
                return now.greater[line];
            case 2:
                return now.hidden >> line & 1;
            default:
                return refuse(OTHER);
        }
    }

    public int curtain(int line) {
        if (!now.hasLine(line)) {
            return refuse(NOBODY);
        }
        now.hang(now.hidden ^ 1 << line);
        return now.hidden >> line & 1;
    }

    public int move(int thing, int room) {
        if (!now.hasThing(thing) || !isRoom(room)) {
            return refuse(NOBODY);
        }
        int was = now.rooms[thing];
        now.rooms[thing] = room;
        return was;
    }

    public int pair(int one, int other) {
        if (!now.hasThing(one) || !now.hasThing(other) || one == other) {
            return refuse(NOBODY);
        }
        return now.couple(one, other);
    }

    public int hour(int v) {
        int fault = outOf(v, 0, HOURS - 1);
        if (fault != 0) {
            return refuse(fault);
        }
        int was = now.hour;
        now.hour = v;
        return was;
    }

    public int seen(int room, int hour) {
        if (!isRoom(room)) {
            return refuse(NOBODY);
        }
        int fault = outOf(hour, 0, HOURS - 1);
        if (fault != 0) {
            return refuse(fault);
        }
        int things = 0;
        for (int t = 0; t < now.thingCount; t++) {
            things |= (now.seenFrom(t, hour) >> room & 1) << t;
        }
        return things;
    }

    public int from(int thing, int hour) {
        if (!now.hasThing(thing)) {
            return refuse(NOBODY);
        }
        int fault = outOf(hour, 0, HOURS - 1);
        if (fault != 0) {
            return refuse(fault);
        }
        return now.seenFrom(thing, hour);
    }

    public int sins(int hour, int what) {
        int fault = outOf(hour, 0, HOURS - 1);
        if (fault != 0) {
            return refuse(fault);
        }
        switch (what) {
            case 0:
                return now.sinCount(hour);
            case 1:
                return now.firstSin(hour);
            default:
                return refuse(OTHER);
        }
    }

    public int day() {
        return now.firstSinfulHour();
    }

    public int curtains() {
        mind.become(now);
        int best = NONE;
        int fewest = MOST_LINES + 1;
        for (int lines = 0; lines < 1 << now.lineCount; lines++) {
            int used = Integer.bitCount(lines);
            if (used < fewest) {
                mind.hang(lines);
                if (mind.firstSin(now.hour) == NONE) {
                    best = lines;
                    fewest = used;
                }
            }
        }
        return best;
    }

    public int moved(int what) {
        if (what != 0 && what != 1) {
            return refuse(OTHER);
        }
        if (now.firstSin(now.hour) == NONE) {
            return what == 0 ? 0 : NONE;
        }
        mind.become(now);
        int first = firstCure(0);
        if (what == 1) {
            return first;
        }
        if (first != NONE) {
            return 1;
        }
        return twoCure() ? 2 : NONE;
    }

    public int given(int thing) {
        if (!now.hasThing(thing)) {
            return refuse(NOBODY);
        }
        if (now.others[thing] != NONE) {
            return refuse(STATE);
        }
        int things = 0;
        for (int t = 0; t < now.thingCount; t++) {
            if (t != thing && now.others[t] == NONE && !now.everMeet(thing, t)) {
                things |= 1 << t;
            }
        }
        return things;
    }

    public int pairings(int what) {
        if (what != 0 && what != 1) {
            return refuse(OTHER);
        }
        givings.allowUnseen(now);
        givings.reckon();
        if (what == 0) {
            return givings.ofAll();
        }
        return Givings.leastOf(givings.othersOf(0));
    }

    public int together(int things) {
        if ((things & ~now.allThings()) != 0) {
            return refuse(NOBODY);
        }
        if (now.setCount >= MOST_SETS) {
            return refuse(OVER);
        }
        now.sets[now.setCount] = things;
        now.setCount++;
        return now.setCount;
    }

    public int may(int thing) {
        if (!now.hasThing(thing)) {
            return refuse(NOBODY);
        }
        givings.allowApart(now);
        givings.reckon();
        return givings.othersOf(thing);
    }

    public int ways() {
        givings.allowApart(now);
        givings.reckon();
        return givings.ofAll();
    }

    public int feast(int room, int what) {
        if (!isRoom(room)) {
            return refuse(NOBODY);
        }
        if (what != 0 && what != 1) {
            return refuse(OTHER);
        }
        if (now.thingCount > MOST_CARRIED) {
            return refuse(STATE);
        }
        mind.become(now);
        for (int carried = now.allThings(); carried >= 0; carried--) {
            orders[carried] = ordersBehind(carried, room);
        }
        return what == 0 ? orders[0] : firstCarried();
    }

    public int clean(int thing) {
        if (!now.hasThing(thing)) {
            return refuse(NOBODY);
        }
        mind.become(now);
        int rooms = 0;
        for (int r = 0; r < ROOMS; r++) {
            mind.rooms[thing] = r;
            if (mind.firstSinfulHour() == NONE) {
                rooms |= 1 << r;
            }
        }
        return rooms;
    }

    public int row(int v) {
        int fault = outOf(v, 0, LAST_MOVE);
        if (fault != 0) {
            return refuse(fault);
        }
        if (moveCount >= MOST_IN_ROW) {
            return refuse(OVER);
        }
        moves[moveCount] = v;
        moveCount++;
        return moveCount;
    }

    public int judge() {
        int found = firstBadMove();
        moveCount = 0;
        return found;
    }

    public int seeds(int n, int z) {
        int fault = outOf(n, 1, MOST_SEEDED);
        if (fault != 0) {
            return refuse(fault);
        }
        if (now.thingCount == 0) {
            return refuse(STATE);
        }
        mind.become(now);
        int sinful = 0;
        int seed = z;
        for (int i = 0; i < n; i++) {
            seed = nextSeed(seed);
            int thing = draw(seed, now.thingCount);
            seed = nextSeed(seed);
            mind.rooms[thing] = draw(seed, ROOMS);
            if (mind.firstSin(now.hour) != NONE) {
                sinful++;
            }
        }
        return sinful;
    }

    public int image() {
        kept.become(now);
        isKept = true;
        return now.thingCount;
    }

    public int on() {
        if (!isKept) {
            return refuse(STATE);
        }
        now.become(kept);
        return now.thingCount;
    }

    public int count(int what) {
        switch (what) {
            case 0:
                return now.thingCount;
            case 1:
                return now.lineCount;
            case 2:
                return now.hour;
            case 3:
                return Integer.bitCount(now.hidden);
            case 4:
                return now.coupledCount();
            case 5:
                return now.setCount;
            case 6:
                return moveCount;
            case 7:
                return text.size;
            default:
                return what >= 11 && what <= 16 ? refusals[what - 10] : NONE;
        }
    }

    private int refuse(int number) {
        refusals[-number]++;
        return number;
    }

    private static int outOf(int v, int least, int greatest) {
        if (v < least) {
            return BELOW;
        }
        return v > greatest ? OVER : 0;
    }

    private static boolean isRoom(int room) {
        return room >= 0 && room < ROOMS;
    }

    /** The first thing (from a least one) and room that alone leave the mind no sin. */
    private int firstCure(int least) {
        for (int t = least; t < mind.thingCount; t++) {
            int home = mind.rooms[t];
            for (int r = 0; r < ROOMS; r++) {
                mind.rooms[t] = r;
                boolean cured = r != home && mind.firstSin(now.hour) == NONE;
                mind.rooms[t] = home;
                if (cured) {
                    return 10 * t + r;
                }
            }
        }
        return NONE;
    }

    private boolean twoCure() {
        for (int t = 0; t < mind.thingCount; t++) {
            int home = mind.rooms[t];
            for (int r = 0; r < ROOMS; r++) {
                mind.rooms[t] = r;
                boolean cured = r != home && firstCure(t + 1) != NONE;
                mind.rooms[t] = home;
                if (cured) {
                    return true;
                }
            }
        }
        return false;
    }

    /** Orders in which the rest can follow; those behind each greater set must be known. */
    private int ordersBehind(int carried, int room) {
        for (int t = 0; t < now.thingCount; t++) {
            mind.rooms[t] = (carried >> t & 1) != 0 ? room : now.rooms[t];
        }
        if (mind.firstSin(now.hour) != NONE) {
            return 0;
        }
        if (carried == now.allThings()) {
            return 1;
        }
        int found = 0;
        for (int t = 0; t < now.thingCount; t++) {
            if ((carried >> t & 1) == 0) {
                found += orders[carried | 1 << t];
            }
        }
        return found;
    }

    private int firstCarried() {
        if (orders[0] > 0) {
            for (int t = 0; t < now.thingCount; t++) {
                if (orders[1 << t] > 0) {
                    return t;
                }
            }
        }
        return NONE;
    }

    private int firstBadMove() {
        mind.become(now);
        for (int k = 0; k < moveCount; k++) {
            int thing = moves[k] / 10;
            int room = moves[k] % 10;
            if (!mind.hasThing(thing) || !isRoom(room)) {
                return k;
            }
            mind.rooms[thing] = room;
            if (mind.firstSin(Math.min(k, HOURS - 1)) != NONE) {
                return k;
            }
        }
        return NONE;
    }

    private static int nextSeed(int seed) {
        return seed * 1664525 + 1013904223;
    }

    private static int draw(int seed, int below) {
        return below > 0 ? (seed & 0x7FFFFFFF) / 256 % below : 0;
    }

    /** All that is told and the sets that are together: what is, what is in mind, an image. */
    private static final class House {
        int lineCount = 0;
        final int[] lesser = new int[MOST_LINES];
        final int[] greater = new int[MOST_LINES];
        /** Lines (bits) with a curtain. */
        int hidden = 0;
        /** Of each room the rooms (bits) that lines join to it, and those without a curtain. */
        final int[] joined = new int[ROOMS];
        final int[] open = new int[ROOMS];
        int thingCount = 0;
        final int[] kinds = new int[MOST_THINGS];
        final int[] rooms = new int[MOST_THINGS];
        final int[] others = new int[MOST_THINGS];
        int hour = 0;
        int setCount = 0;
        final int[] sets = new int[MOST_SETS];

        void become(House model) {
            lineCount = model.lineCount;
            hidden = model.hidden;
            thingCount = model.thingCount;
            hour = model.hour;
            setCount = model.setCount;
            System.arraycopy(model.lesser, 0, lesser, 0, MOST_LINES);
            System.arraycopy(model.greater, 0, greater, 0, MOST_LINES);
            System.arraycopy(model.joined, 0, joined, 0, ROOMS);
            System.arraycopy(model.open, 0, open, 0, ROOMS);
            System.arraycopy(model.kinds, 0, kinds, 0, MOST_THINGS);
            System.arraycopy(model.rooms, 0, rooms, 0, MOST_THINGS);
            System.arraycopy(model.others, 0, others, 0, MOST_THINGS);
            System.arraycopy(model.sets, 0, sets, 0, MOST_SETS);
        }

        boolean hasThing(int thing) {
            return thing >= 0 && thing < thingCount;
        }

        boolean hasLine(int line) {
            return line >= 0 && line < lineCount;
        }

        int allThings() {
            return (1 << thingCount) - 1;
        }

        int coupledCount() {
            int found = 0;
            for (int t = 0; t < thingCount; t++) {
                if (others[t] != NONE) {
                    found++;
                }
            }
            return found;
        }

        /** Curtains on these lines (bits) and on none else. */
        void hang(int lines) {
            hidden = lines;
            for (int r = 0; r < ROOMS; r++) {
                open[r] = 0;
            }
            for (int l = 0; l < lineCount; l++) {
                if ((lines >> l & 1) == 0) {
                    open[lesser[l]] |= 1 << greater[l];
                    open[greater[l]] |= 1 << lesser[l];
                }
            }
        }

        /** How many things lose their others by it. */
        int couple(int one, int other) {
            if (others[one] == other) {
                return 0;
            }
            int lost = leave(one) + leave(other);
            others[one] = other;
            others[other] = one;
            return lost;
        }

        int leave(int thing) {
            int left = others[thing];
            if (!hasThing(left)) {
                return 0;
            }
            others[left] = NONE;
            return 1;
        }

        boolean addLine(int one, int other) {
            if (!isRoom(one) || !isRoom(other) || one == other || lineCount >= MOST_LINES) {
                return false;
            }
            if ((joined[one] >> other & 1) != 0) {
                return false;
            }
            lesser[lineCount] = Math.min(one, other);
            greater[lineCount] = Math.max(one, other);
            lineCount++;
            joined[one] |= 1 << other;
            joined[other] |= 1 << one;
            open[one] |= 1 << other;
            open[other] |= 1 << one;
            return true;
        }

        boolean addThing(int kind, int room) {
            if (!isRoom(room) || thingCount >= MOST_THINGS) {
                return false;
            }
            kinds[thingCount] = kind;
            rooms[thingCount] = room;
            others[thingCount] = NONE;
            thingCount++;
            return true;
        }

        /** Does what a statement says; false (and nothing done) if it is not as it must be. */
        boolean obey(int order, int one, int other) {
            switch (order) {
                case 'l':
                    return addLine(Text.digit(one), Text.digit(other));
                case 'c':
                    return toggle(Text.digit(one));
                case 't':
                    return addThing(Text.kind(one), Text.digit(other));
                case 'o':
                    return acquaint(Text.digit(one), Text.digit(other));
                case 'm':
                    return bring(Text.digit(one), Text.digit(other));
                default:
                    return strike(Text.digit(one));
            }
        }

        boolean toggle(int line) {
            if (!hasLine(line)) {
                return false;
            }
            hang(hidden ^ 1 << line);
            return true;
        }

        boolean acquaint(int one, int other) {
            if (!hasThing(one) || !hasThing(other) || one == other) {
                return false;
            }
            couple(one, other);
            return true;
        }

        boolean bring(int thing, int room) {
            if (!hasThing(thing) || !isRoom(room)) {
                return false;
            }
            rooms[thing] = room;
            return true;
        }

        boolean strike(int told) {
            if (told < 0 || told >= HOURS) {
                return false;
            }
            hour = told;
            return true;
        }

        int seenFrom(int thing, int when) {
            int room = rooms[thing];
            int own = 1 << room;
            switch (kinds[thing]) {
                case WRAPPED:
                    return open[room];
                case SHADY:
                    return when == NOON ? own | open[room] : open[room];
                case NIGHTLY:
                    return when >= NIGHT ? own | open[room] : 0;
                case BRIGHT:
                case MIRROR:
                    // What else stands in a mirror's room is seen from there and from joined
                    // rooms at most, and from all of these the mirror is seen, as a bright one.
                    return own | joined[room];
                default:
                    return own | open[room];
            }
        }

        boolean meet(int one, int other, int when) {
            return (seenFrom(one, when) & seenFrom(other, when)) != 0;
        }

        boolean everMeet(int one, int other) {
            for (int h = 0; h < HOURS; h++) {
                if (meet(one, other, h)) {
                    return true;
                }
            }
            return false;
        }

        /** Whether a thing sins with an other of a greater number, so that a pair tells once. */
        boolean sinsAsLesser(int thing, int when) {
            int other = others[thing];
            return other > thing && hasThing(other) && meet(thing, other, when);
        }

        int firstSin(int when) {
            for (int t = 0; t < thingCount; t++) {
                if (sinsAsLesser(t, when)) {
                    return 10 * t + others[t];
                }
            }
            return NONE;
        }

        int sinCount(int when) {
            int found = 0;
            for (int t = 0; t < thingCount; t++) {
                if (sinsAsLesser(t, when)) {
                    found++;
                }
            }
            return found;
        }

        int firstSinfulHour() {
            for (int h = 0; h < HOURS; h++) {
                if (firstSin(h) != NONE) {
                    return h;
                }
            }
            return NONE;
        }
    }

    /** The letters of a house that is being told. */
    private static final class Text {
        final int[] letters = new int[MOST_LETTERS];
        int size = 0;

        int put(int c) {
            letters[size] = c;
            size++;
            return size;
        }

        /** How many statements the house obeyed; the fault, behind which it is half told. */
        int readInto(House house) {
            int unfit = firstUnfit();
            if (unfit != NONE) {
                return UNREADABLE - unfit;
            }
            int statements = 0;
            int start = 0;
            for (int i = 0; i < size; i++) {
                if (letters[i] == ';' && i >= start + 2) {
                    if (!house.obey(letters[start], letters[start + 1], letters[start + 2])) {
                        return WRONG - start;
                    }
                    statements++;
                    start = i + 1;
                }
            }
            return statements;
        }

        int firstUnfit() {
            int start = 0;
            for (int i = 0; i < size; i++) {
                if (!fits(letters[start], i - start, letters[i])) {
                    return i;
                }
                if (letters[i] == ';') {
                    start = i + 1;
                }
            }
            return size > 0 && start == size ? NONE : size;
        }

        /** Whether a letter can stand at a place of a statement with this first letter. */
        static boolean fits(int first, int place, int c) {
            int length = statementLength(first);
            if (place == 0) {
                return length > 0;
            }
            if (place == length - 1) {
                return c == ';';
            }
            return first == 't' && place == 1 ? kind(c) != NONE : digit(c) != NONE;
        }

        static int statementLength(int first) {
            switch (first) {
                case 'l':
                case 't':
                case 'o':
                case 'm':
                    return 4;
                case 'c':
                case 'h':
                    return 3;
                default:
                    return 0;
            }
        }

        static int digit(int c) {
            return c >= '0' && c <= '9' ? c - '0' : NONE;
        }

        static int kind(int c) {
            switch (c) {
                case 't':
                    return THING;
                case 'w':
                    return WRAPPED;
                case 's':
                    return SHADY;
                case 'b':
                    return BRIGHT;
                case 'n':
                    return NIGHTLY;
                case 'm':
                    return MIRROR;
                default:
                    return NONE;
            }
        }
    }

    /** The ways to give all things others, each just one, of those that are allowed. */
    private static final class Givings {
        int thingCount = 0;
        /** Of each thing the things (bits) that may be its other. */
        final int[] allowed = new int[MOST_THINGS];
        /** In how many ways the things of a set (bits) can be others among themselves. */
        final int[] within = new int[1 << MOST_THINGS];

        void allowUnseen(House house) {
            thingCount = house.thingCount;
            for (int t = 0; t < thingCount; t++) {
                allowed[t] = 0;
                for (int o = 0; o < thingCount; o++) {
                    if (o != t && !house.meet(t, o, house.hour)) {
                        allowed[t] |= 1 << o;
                    }
                }
            }
        }

        void allowApart(House house) {
            thingCount = house.thingCount;
            for (int t = 0; t < thingCount; t++) {
                int barred = 1 << t;
                for (int s = 0; s < house.setCount; s++) {
                    if ((house.sets[s] >> t & 1) != 0) {
                        barred |= house.sets[s];
                    }
                }
                allowed[t] = house.allThings() & ~barred;
            }
        }

        void reckon() {
            within[0] = 1;
            for (int set = 1; set < 1 << thingCount; set++) {
                int least = leastOf(set);
                int rest = set ^ 1 << least;
                int found = 0;
                for (int o = least + 1; o < thingCount; o++) {
                    if ((rest & allowed[least] & 1 << o) != 0) {
                        found += within[rest ^ 1 << o];
                    }
                }
                within[set] = found;
            }
        }

        /** The least of some things (bits); of none NONE. */
        static int leastOf(int things) {
            for (int t = 0; t < MOST_THINGS; t++) {
                if ((things >> t & 1) != 0) {
                    return t;
                }
            }
            return NONE;
        }

        int ofAll() {
            return within[(1 << thingCount) - 1];
        }

        /** The things (bits) that are the other of this one in some way. */
        int othersOf(int thing) {
            int others = 0;
            int rest = (1 << thingCount) - 1 & ~(1 << thing);
            for (int o = 0; o < thingCount; o++) {
                if ((rest & allowed[thing] & 1 << o) != 0 && within[rest ^ 1 << o] > 0) {
                    others |= 1 << o;
                }
            }
            return others;
        }
    }
}
