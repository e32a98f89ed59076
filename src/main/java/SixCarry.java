import java.util.Arrays;

/** Bearers of unlike height under one load, on ways that are told as texts; README.md says how it is used. */
public final class SixCarry {
    public static final int NONE = -1;

    private static final int NO_SUCH = NONE - 1;
    private static final int MOST_PLACES = 8;
    private static final int MOST_BEARERS = 8;
    private static final int STEEPEST = 9;
    private static final int MOST_TIRED = 1000;
    private static final int MOST_SWAY = 999;
    private static final int MOST_POUNDS = 999;
    private static final int MOST_PACE = 99999;
    private static final int MOST_CALL_PACES = 200;
    private static final int FARTHEST = 2000;
    private static final int LONGEST_SWAY = 1000;
    private static final int LONGEST_STRAPS = 60;
    private static final int LONGEST_REST = 99;
    private static final int MOST_UNDONE = 6;
    private static final int BYTES_FED = 20;
    private static final int MOST_TAPE = 400;
    private static final int MOST_LAW_LINES = 16;
    private static final int MOST_WAY_LINES = 40;
    private static final int MOST_OPEN = 8;
    private static final int MOST_DIGITS = 4;
    private static final int MOST_BOOK_LINES = 150;
    private static final int BOOK_ROW = 4;
    private static final int GREATEST_INT = 0x7fffffff;

    /** TOP on the level goes from TALL 40 without CLOTH to TALL 80 with CLOTH 6. */
    private static final int LEAST_TOP = 40;
    private static final int TOPS = 47;

    /** An answer in thought that is kept until something changes. */
    private static final int ORDER_KNOWN = 1;
    private static final int CLOTHS_KNOWN = 2;
    private static final int FITS_KNOWN = 4;
    private static final int HELPS_KNOWN = 8;

    /** What THE BOOK tells of. */
    private static final int FELL = 0;
    private static final int SLIPPED = 1;
    private static final int CHANGED = 2;
    private static final int RESTED = 3;

    private static final int CANNOT_STAND = 1;
    private static final int BEYOND = 2;
    private static final int TOO_MANY = 3;

    /** The KEYWORDS, each by its number below; those of U come first, as a law's facts lie in their order. */
    private static final String WORDS = "tall strength knee tired cloth pair right up down hands over bears can gravel sway bear tire when or and not walk gate rest change to in ";
    private static final int TALL = 0;
    private static final int STRENGTH = 1;
    private static final int KNEE = 2;
    private static final int TIRED = 3;
    private static final int CLOTH = 4;
    private static final int PAIR = 5;
    private static final int RIGHT = 6;
    private static final int UP = 7;
    private static final int DOWN = 8;
    private static final int HANDS = 9;
    private static final int OVER = 10;
    private static final int BEARS = 11;
    private static final int CAN = 12;
    private static final int GRAVEL = 13;
    private static final int SWAY = 14;
    private static final int FACTS = 15;
    private static final int BEAR = 15;
    private static final int TIRE = 16;
    private static final int WHEN = 17;
    private static final int OR = 18;
    private static final int AND = 19;
    private static final int NOT = 20;
    private static final int WALK = 21;
    private static final int GATE = 22;
    private static final int REST = 23;
    private static final int CHANGE = 24;
    private static final int TO = 25;
    private static final int IN = 26;
    /** Other TOKENS; a sign is its own byte, which is above all of these. */
    private static final int NUMBER = 30;
    private static final int BAD = 31;
    private static final int END = 32;
    private static final String SIGNS = ";+-*/()<=>";

    private final World world = new World();
    private final World image = new World();
    private final Reader reader = new Reader();
    private final Bearing bearing = new Bearing();
    private final Walk walk = new Walk(world, bearing);
    private final Search search = new Search(world, bearing);
    private final Moment[] moments = new Moment[MOST_UNDONE];
    private int oldest = 0;
    private int undoable = 0;
    private boolean imageTaken = false;
    private int known = 0;

    public SixCarry() {
        for (int i = 0; i < MOST_UNDONE; i++) {
            moments[i] = new Moment();
        }
    }

    public int state(int v) {
        int was = world.state;
        world.state = v;
        forgetPaces();
        return was;
    }

    public int bearer(int tall, int strength, int foot, int knee) {
        Crew crew = world.crew;
        boolean fit = within(tall, 40, 80) && within(strength, 0, 300) && within(foot, 0, 1) && within(knee, 0, 1);
        if (!fit || crew.size >= MOST_BEARERS) {
            return NONE;
        }
        int b = crew.size;
        crew.tall[b] = tall;
        crew.strength[b] = strength;
        crew.foot[b] = foot;
        crew.knee[b] = knee;
        crew.tired[b] = 0;
        crew.size = b + 1;
        forgetPaces();
        return b;
    }

    public boolean set(int what, int who, int v) {
        boolean good = false;
        if (within(what, 0, 5)) {
            good = tellLoad(what, v);
        } else if (within(what, 6, 8)) {
            good = world.places.has(who) && tellPlace(what, who, v);
        } else if (within(what, 9, 10)) {
            good = world.crew.has(who) && tellBearer(what, who, v);
        }
        if (good) {
            forgetPaces();
        }
        return good;
    }

    public boolean place(int place, int bearer) {
        if (!world.places.has(place) || bearer != NONE && !world.crew.has(bearer)) {
            return false;
        }
        world.places.put(place, bearer);
        forgetPaces();
        return true;
    }

    public int feed(int a, int b, int c, int d, int e) {
        if (reader.length + BYTES_FED > MOST_TAPE) {
            return NONE;
        }
        reader.take(a);
        reader.take(b);
        reader.take(c);
        reader.take(d);
        reader.take(e);
        return reader.length;
    }

    public boolean end(int n) {
        if (!within(n, 0, reader.length)) {
            return false;
        }
        reader.length = n;
        return true;
    }

    public int text(int k) {
        reader.open(within(k, 0, 2));
        if (k == 0 && reader.readLaw(BEAR)) {
            world.bearing.copyFrom(reader.law);
            known = 0;
            return world.bearing.lines;
        }
        if (k == 1 && reader.readLaw(TIRE)) {
            world.tiring.copyFrom(reader.law);
            known = 0;
            return world.tiring.lines;
        }
        if (k == 2 && reader.readWay(world.places.count(), world.crew.size)) {
            world.beginWay(reader.way);
            forgetPaces();
            return world.way.lines;
        }
        return NONE;
    }

    public int fault(int what) {
        if (what == 0) {
            return reader.fault;
        }
        return what == 1 ? reader.faultAt : NONE;
    }

    public int paces(int n) {
        if (!within(n, 1, MOST_CALL_PACES) || world.pace + n > MOST_PACE) {
            return NONE;
        }
        known = 0;
        int done = 0;
        while (done < n && walk.hasPace()) {
            nextMoment().take(world);
            walk.step();
            done++;
        }
        return done;
    }

    public int of(int bearer, int what) {
        Crew crew = world.crew;
        if (!crew.has(bearer)) {
            return NO_SUCH;
        }
        switch (what) {
            case 0: return crew.tall[bearer];
            case 1: return crew.strength[bearer];
            case 2: return crew.foot[bearer];
            case 3: return crew.knee[bearer];
            case 4: return crew.tired[bearer];
            case 5: return crew.can(bearer);
            case 6: return world.places.placeOf(bearer);
            default: return NO_SUCH;
        }
    }

    public int at(int place, int what) {
        Places places = world.places;
        if (!places.has(place)) {
            return NO_SUCH;
        }
        switch (what) {
            case 0: return places.who[place];
            case 1: return places.cloth[place];
            case 2: return places.kept[place];
            case 3: return places.speed[place];
            case 4: return places.seen[place];
            case 5: return places.who[place] == NONE ? NONE : world.top(place, 0);
            default: return NO_SUCH;
        }
    }

    public int book(int i, int what) {
        if (!within(i, 0, world.book.lines - 1) || !within(what, 0, BOOK_ROW - 1)) {
            return NO_SUCH;
        }
        return world.book.rows[i * BOOK_ROW + what];
    }

    public int loads(int place, int slope) {
        if (!world.places.has(place) || !isSlope(slope) || world.places.who[place] == NONE) {
            return NONE;
        }
        return bearing.bears(world, slope, 0) ? bearing.load[place] : NONE;
    }

    public int idle(int slope, int what) {
        if (!isSlope(slope) || !within(what, 0, 1) || !bearing.bears(world, slope, 0)) {
            return NONE;
        }
        return what == 0 ? bearing.idleSet() : bearing.spread();
    }

    public int order(int what) {
        if (what != 0 && !isPlaceAnswer(what)) {
            return NONE;
        }
        if ((known & ORDER_KNOWN) == 0) {
            search.findOrder(world.places.keptSet());
            known |= ORDER_KNOWN;
        }
        if (search.orderSpread == NONE) {
            return NONE;
        }
        return what == 0 ? search.orderSpread : search.orderWho[what - 10];
    }

    public int dearest() {
        int kept = world.places.keptSet();
        int spread = search.findOrder(kept);
        int dearest = NONE;
        int most = 0;
        for (int p = 0; p < MOST_PLACES && spread > 0; p++) {
            if ((kept >> p & 1) == 0) {
                continue;
            }
            int without = search.findOrder(kept & ~(1 << p));
            if (without != NONE && spread - without > most) {
                most = spread - without;
                dearest = p;
            }
        }
        known &= ~ORDER_KNOWN;
        return dearest;
    }

    public int cloths(int what) {
        if (!within(what, 0, 1) && !isPlaceAnswer(what)) {
            return NONE;
        }
        if ((known & CLOTHS_KNOWN) == 0) {
            search.findCloths();
            known |= CLOTHS_KNOWN;
        }
        if (search.clothSpread == NONE) {
            return NONE;
        }
        if (what == 0) {
            return search.clothSpread;
        }
        return what == 1 ? search.clothInches : search.clothBest[what - 10];
    }

    public int far(int slope) {
        return isSlope(slope) ? walk.farOn(slope) : NONE;
    }

    public int line() {
        int hands = world.hands;
        int found = NONE;
        for (int s = 0; s <= STEEPEST && found == NONE; s++) {
            world.hands = 1;
            int byHand = walk.farOn(s);
            world.hands = 0;
            if (byHand > walk.farOn(s)) {
                found = s;
            }
        }
        world.hands = hands;
        return found;
    }

    public int gates() {
        int able = 0;
        for (int i = 0; i < world.places.pairs; i++) {
            if (bearing.bears(world, 0, 3 << 2 * i)) {
                able |= 1 << i;
            }
        }
        return able;
    }

    public int sways(int n) {
        if (n == NONE) {
            return walk.swayAfter(LONGEST_SWAY) > walk.swayAfter(LONGEST_SWAY / 2) ? 1 : 0;
        }
        return within(n, 0, LONGEST_SWAY) ? walk.swayAfter(n) : NO_SUCH;
    }

    public int goes(int what) {
        return within(what, 0, 2) ? walk.goesOn(what) : NONE;
    }

    public int rests() {
        return walk.restsNeeded();
    }

    public int straps(int n, int what) {
        if (!within(n, 0, LONGEST_STRAPS) || !within(what, 0, 2) || world.places.heldSet() == 0) {
            return NONE;
        }
        if (what == 0) {
            return world.levelAfter(n);
        }
        int worst = NONE;
        int second = 0;
        for (int t = 0; t <= n; t++) {
            int level = world.levelAfter(t);
            if (level > worst) {
                worst = level;
                second = t;
            }
        }
        return what == 1 ? worst : second;
    }

    public boolean seen(int place, int pounds) {
        if (!world.places.has(place) || !within(pounds, NONE, MOST_POUNDS)) {
            return false;
        }
        world.places.seen[place] = pounds;
        known = 0;
        return true;
    }

    public int fits(int what) {
        if (what != 0 && !isPlaceAnswer(what)) {
            return NONE;
        }
        if ((known & FITS_KNOWN) == 0) {
            search.findFits();
            known |= FITS_KNOWN;
        }
        if (what == 0) {
            return search.fitCount;
        }
        return search.fitCount == 0 ? NONE : search.fitWho[what - 10];
    }

    public int unseen(int what) {
        if (!within(what, 0, 2)) {
            return NONE;
        }
        int couples = 0;
        int lesser = NONE;
        int greater = NONE;
        int places = world.places.count();
        int there = world.places.heldSet();
        for (int p = 0; p < places; p++) {
            for (int q = p + 1; q < places; q++) {
                int couple = 1 << p | 1 << q;
                // Where nobody is, there is nobody who could bear nothing unseen.
                if ((there & couple) != couple || !bearing.bears(world, 0, couple)) {
                    continue;
                }
                if (couples == 0) {
                    lesser = p;
                    greater = q;
                }
                couples++;
            }
        }
        if (what == 0) {
            return couples;
        }
        return what == 1 ? lesser : greater;
    }

    public int helps(int what) {
        if (!within(what, 0, 2)) {
            return NONE;
        }
        if ((known & HELPS_KNOWN) == 0) {
            walk.findHelp();
            known |= HELPS_KNOWN;
        }
        if (walk.helpPlace == NONE || what == 0) {
            return walk.helpPlace;
        }
        return what == 1 ? walk.helpBearer : walk.helpFar;
    }

    public boolean undo() {
        if (undoable == 0) {
            return false;
        }
        undoable--;
        moments[(oldest + undoable) % MOST_UNDONE].giveBack(world);
        known = 0;
        return true;
    }

    public boolean image(boolean taken) {
        if (taken) {
            image.copyFrom(world);
            imageTaken = true;
            return true;
        }
        if (!imageTaken) {
            return false;
        }
        world.copyFrom(image);
        forgetPaces();
        return true;
    }

    public int look(int what) {
        switch (what) {
            case 0: return world.pounds;
            case 1: return world.places.pairs;
            case 2: return world.crew.size;
            case 3: return world.pace;
            case 4: return world.falls;
            case 5: return world.sway;
            case 6: return world.book.lines;
            case 7: return world.state;
            case 8: return world.bearing.lines;
            case 9: return world.tiring.lines;
            case 10: return world.way.lines - world.next;
            case 11: return undoable;
            case 20: return world.hands;
            case 21: return world.loose;
            case 22: return world.ease;
            case 23: return world.slip;
            default: return NONE;
        }
    }

    private boolean tellLoad(int what, int v) {
        if (what == 0 && within(v, 1, MOST_POUNDS)) {
            world.pounds = v;
        } else if (what == 1 && within(v, 2, MOST_PLACES / 2)) {
            world.places.begin(v);
        } else if (what == 2 && within(v, 0, 1)) {
            world.hands = v;
        } else if (what == 3 && within(v, 0, 200)) {
            world.loose = v;
        } else if (what == 4 && within(v, 0, 1000)) {
            world.ease = v;
        } else if (what == 5 && within(v, 0, 1000)) {
            world.slip = v;
        } else {
            return false;
        }
        return true;
    }

    private boolean tellPlace(int what, int place, int v) {
        if (what == 6 && within(v, 0, 6)) {
            world.places.cloth[place] = v;
        } else if (what == 7 && within(v, 0, 1)) {
            world.places.kept[place] = v;
        } else if (what == 8 && within(v, 1, 9)) {
            world.places.speed[place] = v;
        } else {
            return false;
        }
        return true;
    }

    private boolean tellBearer(int what, int bearer, int v) {
        if (what == 9 && within(v, 0, 300)) {
            world.crew.strength[bearer] = v;
        } else if (what == 10 && within(v, 0, MOST_TIRED)) {
            world.crew.tired[bearer] = v;
        } else {
            return false;
        }
        return true;
    }

    private void forgetPaces() {
        undoable = 0;
        known = 0;
    }

    private Moment nextMoment() {
        if (undoable == MOST_UNDONE) {
            oldest = (oldest + 1) % MOST_UNDONE;
            undoable--;
        }
        undoable++;
        return moments[(oldest + undoable - 1) % MOST_UNDONE];
    }

    private boolean isPlaceAnswer(int what) {
        return within(what, 10, 9 + world.places.count());
    }

    private static boolean isSlope(int slope) {
        return within(slope, -STEEPEST, STEEPEST);
    }

    private static boolean within(int v, int least, int most) {
        return v >= least && v <= most;
    }

    private static int heldTo(int v, int least, int most) {
        return Math.max(least, Math.min(most, v));
    }

    private static void copy(int[] from, int[] to) {
        System.arraycopy(from, 0, to, 0, Math.min(from.length, to.length));
    }

    /** The BEARERS. */
    private static final class Crew {
        int size = 0;
        final int[] tall = new int[MOST_BEARERS];
        final int[] strength = new int[MOST_BEARERS];
        final int[] foot = new int[MOST_BEARERS];
        final int[] knee = new int[MOST_BEARERS];
        final int[] tired = new int[MOST_BEARERS];

        boolean has(int b) {
            return b >= 0 && b < size;
        }

        int can(int b) {
            return strength[b] * (MOST_TIRED - tired[b]) / MOST_TIRED;
        }

        void ease(int by) {
            for (int b = 0; b < size; b++) {
                tired[b] = Math.max(0, tired[b] - by);
            }
        }

        int mostTired() {
            int most = 0;
            for (int b = 0; b < size; b++) {
                most = Math.max(most, tired[b]);
            }
            return most;
        }

        void copyFrom(Crew other) {
            size = other.size;
            copy(other.tall, tall);
            copy(other.strength, strength);
            copy(other.foot, foot);
            copy(other.knee, knee);
            copy(other.tired, tired);
        }
    }

    /** The PLACES of the load. */
    private static final class Places {
        int pairs = 0;
        final int[] who = new int[MOST_PLACES];
        final int[] cloth = new int[MOST_PLACES];
        final int[] kept = new int[MOST_PLACES];
        final int[] speed = new int[MOST_PLACES];
        final int[] seen = new int[MOST_PLACES];

        void begin(int newPairs) {
            pairs = newPairs;
            Arrays.fill(who, NONE);
            Arrays.fill(cloth, 0);
            Arrays.fill(kept, 0);
            Arrays.fill(speed, 1);
            Arrays.fill(seen, NONE);
        }

        int count() {
            return 2 * pairs;
        }

        boolean has(int p) {
            return p >= 0 && p < 2 * pairs;
        }

        int placeOf(int b) {
            for (int p = 0; p < 2 * pairs; p++) {
                if (who[p] == b) {
                    return p;
                }
            }
            return NONE;
        }

        void put(int place, int b) {
            int own = b == NONE ? NONE : placeOf(b);
            if (own != NONE) {
                who[own] = NONE;
            }
            who[place] = b;
        }

        int heldSet() {
            int held = 0;
            for (int p = 0; p < 2 * pairs; p++) {
                if (who[p] != NONE) {
                    held |= 1 << p;
                }
            }
            return held;
        }

        /** Where nobody is, nobody is kept: such a PLACE binds no ORDER. */
        int keptSet() {
            int set = 0;
            for (int p = 0; p < 2 * pairs; p++) {
                set |= who[p] == NONE ? 0 : kept[p] << p;
            }
            return set;
        }

        void copyFrom(Places other) {
            pairs = other.pairs;
            copy(other.who, who);
            copy(other.cloth, cloth);
            copy(other.kept, kept);
            copy(other.speed, speed);
            copy(other.seen, seen);
        }
    }

    /**
     * A LAW, its lines one behind the other with each sign behind what it joins, so that a stack suffices:
     * a NUMBER is itself, any other TOKEN is -1 less its number. A line is its E and ';', or its E, its B and WHEN.
     */
    private static final class Law {
        /** E, two for each of nine levels of B, and four within a comparison stay below this. */
        private static final int DEEPEST = 32;
        int lines = 0;
        int size = 0;
        final int[] code = new int[MOST_TAPE];
        final int[] stack = new int[DEEPEST];

        void clear() {
            lines = 0;
            size = 0;
        }

        /** Always true, so that it can stand behind what was read. */
        boolean put(int c) {
            if (size < MOST_TAPE) {
                code[size] = c;
                size++;
            }
            return true;
        }

        int ask(int[] facts, int otherwise) {
            int top = 0;
            for (int i = 0; i < size && top < DEEPEST; i++) {
                int kind = -1 - code[i];
                if (kind < 0) {
                    stack[top] = code[i];
                    top++;
                } else if (kind < FACTS) {
                    stack[top] = facts[kind];
                    top++;
                } else if (kind == ';') {
                    return stack[0];
                } else if (kind == WHEN) {
                    if (stack[1] != 0) {
                        return stack[0];
                    }
                    top = 0;
                } else if (kind == NOT) {
                    if (top > 0) {
                        stack[top - 1] = 1 - stack[top - 1];
                    }
                } else if (top > 1) {
                    top--;
                    stack[top - 1] = joined(kind, stack[top - 1], stack[top]);
                }
            }
            return otherwise;
        }

        private static int joined(int sign, int a, int b) {
            switch (sign) {
                case '+': return a + b;
                case '-': return a - b;
                case '*': return a * b;
                case '/': return b == 0 ? 0 : a / b;
                case '<': return a < b ? 1 : 0;
                case '=': return a == b ? 1 : 0;
                case '>': return a > b ? 1 : 0;
                case AND: return a & b;
                case OR: return a | b;
                default: return 0;
            }
        }

        void copyFrom(Law other) {
            lines = other.lines;
            size = other.size;
            System.arraycopy(other.code, 0, code, 0, size);
        }
    }

    /** A WAY: of each line its KEYWORD, its first NUMBER, its second (a slope with its sign), and gravel. */
    private static final class Way {
        int lines = 0;
        int lastPace = NONE;
        final int[] kind = new int[MOST_WAY_LINES];
        final int[] first = new int[MOST_WAY_LINES];
        final int[] second = new int[MOST_WAY_LINES];
        final int[] gravel = new int[MOST_WAY_LINES];

        void clear() {
            lines = 0;
            lastPace = NONE;
        }

        void add(int newKind, int newFirst, int newSecond, int newGravel) {
            if (lines >= MOST_WAY_LINES) {
                return;
            }
            kind[lines] = newKind;
            first[lines] = newFirst;
            second[lines] = newSecond;
            gravel[lines] = newGravel;
            if (newKind == WALK || newKind == GATE) {
                lastPace = lines;
            }
            lines++;
        }

        void copyFrom(Way other) {
            lines = other.lines;
            lastPace = other.lastPace;
            copy(other.kind, kind);
            copy(other.first, first);
            copy(other.second, second);
            copy(other.gravel, gravel);
        }
    }

    /** THE BOOK. */
    private static final class Book {
        int lines = 0;
        final int[] rows = new int[MOST_BOOK_LINES * BOOK_ROW];

        void write(int pace, int what, int placeOrMinutes, int bearer) {
            if (lines >= MOST_BOOK_LINES) {
                return;
            }
            int row = lines * BOOK_ROW;
            rows[row] = pace;
            rows[row + 1] = what;
            rows[row + 2] = placeOrMinutes;
            rows[row + 3] = bearer;
            lines++;
        }

        void copyFrom(Book other) {
            lines = other.lines;
            System.arraycopy(other.rows, 0, rows, 0, lines * BOOK_ROW);
        }
    }

    /** All that is and was told: just what THE IMAGE holds. */
    private static final class World {
        int pounds = 400;
        int hands = 0;
        int loose = 50;
        int ease = 100;
        int slip = 0;
        int state = 0;
        int pace = 0;
        int falls = 0;
        int sway = 0;
        /** The line of A WAY that is next, and how many of its paces are done. */
        int next = 0;
        int done = 0;
        final Crew crew = new Crew();
        final Places places = new Places();
        final Law bearing = new Law();
        final Law tiring = new Law();
        final Way way = new Way();
        final Book book = new Book();

        World() {
            places.begin(3);
        }

        void beginWay(Way told) {
            way.copyFrom(told);
            next = 0;
            done = 0;
        }

        int draw(int m) {
            state = state * 1664525 + 1013904223;
            return m < 1 ? 0 : (state >>> 8) % m;
        }

        /** Only for a PLACE where somebody is. */
        int top(int p, int slope) {
            int behind = places.pairs - 1 - p / 2;
            return crew.tall[places.who[p]] + places.cloth[p] + slope * behind;
        }

        int levelAfter(int seconds) {
            int greatest = NONE;
            int least = GREATEST_INT;
            for (int p = 0; p < places.count(); p++) {
                if (places.who[p] == NONE) {
                    continue;
                }
                int height = Math.max(0, top(p, 0) - seconds * places.speed[p]);
                greatest = Math.max(greatest, height);
                least = Math.min(least, height);
            }
            return greatest - least;
        }

        /** How many of a set of PLACES step with the outside foot. */
        int wrongSteps(int set) {
            int wrong = 0;
            for (int p = 0; p < places.count(); p++) {
                if ((set >> p & 1) == 1 && crew.foot[places.who[p]] == (p & 1)) {
                    wrong++;
                }
            }
            return wrong;
        }

        int swayNext(int from, int wrong) {
            return Math.min(MOST_SWAY, from * loose / 100 + wrong);
        }

        void copyFrom(World other) {
            pounds = other.pounds;
            hands = other.hands;
            loose = other.loose;
            ease = other.ease;
            slip = other.slip;
            state = other.state;
            pace = other.pace;
            falls = other.falls;
            sway = other.sway;
            next = other.next;
            done = other.done;
            crew.copyFrom(other.crew);
            places.copyFrom(other.places);
            bearing.copyFrom(other.bearing);
            tiring.copyFrom(other.tiring);
            way.copyFrom(other.way);
            book.copyFrom(other.book);
        }
    }

    /** What a PACE can change, as it was ahead of it; what is thought goes back by it, too. */
    private static final class Moment {
        private int state = 0;
        private int pace = 0;
        private int falls = 0;
        private int sway = 0;
        private int next = 0;
        private int done = 0;
        /** THE BOOK grows at its end alone, so its length tells what it was. */
        private int bookLines = 0;
        private final int[] who = new int[MOST_PLACES];
        private final int[] cloth = new int[MOST_PLACES];
        private final int[] tired = new int[MOST_BEARERS];

        void take(World w) {
            state = w.state;
            pace = w.pace;
            falls = w.falls;
            sway = w.sway;
            next = w.next;
            done = w.done;
            bookLines = w.book.lines;
            copy(w.places.who, who);
            copy(w.places.cloth, cloth);
            copy(w.crew.tired, tired);
        }

        void giveBack(World w) {
            w.state = state;
            w.pace = pace;
            w.falls = falls;
            w.sway = sway;
            w.next = next;
            w.done = done;
            w.book.lines = bookLines;
            copy(who, w.places.who);
            copy(cloth, w.places.cloth);
            copy(tired, w.crew.tired);
        }
    }

    /** The TAPE, and what reads a TEXT from it. */
    private static final class Reader {
        private static final int BLANK = 0;
        private static final int LETTER = 1;
        private static final int DIGIT = 2;
        private static final int OTHER = 3;
        int length = 0;
        int fault = 0;
        int faultAt = NONE;
        final Law law = new Law();
        final Way way = new Way();
        private final byte[] tape = new byte[MOST_TAPE];
        /** Of each TOKEN; the end is one more. */
        private final int[] kind = new int[MOST_TAPE + 1];
        private final int[] value = new int[MOST_TAPE + 1];
        private final int[] from = new int[MOST_TAPE + 1];
        private final int[] till = new int[MOST_TAPE + 1];
        private int tokens = 0;
        private int now = 0;
        /** How many ( and not are open. */
        private int opened = 0;
        private int number = 0;

        void take(int four) {
            for (int shift = 24; shift >= 0 && length < MOST_TAPE; shift -= 8) {
                tape[length] = (byte) (four >> shift);
                length++;
            }
        }

        /** The TAPE is cut into TOKENS (if there is a TEXT for them) and is empty then. */
        void open(boolean wanted) {
            fault = 0;
            faultAt = NONE;
            tokens = 0;
            now = 0;
            opened = 0;
            if (wanted) {
                cut();
                for (int t = 0; t < tokens; t++) {
                    name(t);
                }
            }
            kind[tokens] = END;
            from[tokens] = length;
            length = 0;
        }

        private void cut() {
            int last = BLANK;
            for (int i = 0; i < length; i++) {
                int sort = sortOf(tape[i] & 255);
                if (sort != BLANK) {
                    if (sort != last || sort == OTHER) {
                        from[tokens] = i;
                        tokens++;
                    }
                    till[tokens - 1] = i + 1;
                }
                last = sort;
            }
        }

        private static int sortOf(int c) {
            if (c == 32 || c == 10) {
                return BLANK;
            }
            if (within(c, 'a', 'z') || within(c, 'A', 'Z')) {
                return LETTER;
            }
            return within(c, '0', '9') ? DIGIT : OTHER;
        }

        private void name(int t) {
            int c = tape[from[t]] & 255;
            int sort = sortOf(c);
            if (sort == LETTER) {
                kind[t] = wordOf(from[t], till[t]);
            } else if (sort == DIGIT) {
                kind[t] = till[t] - from[t] > MOST_DIGITS ? BAD : NUMBER;
                value[t] = kind[t] == BAD ? 0 : numberOf(from[t], till[t]);
            } else {
                kind[t] = SIGNS.indexOf((char) c) < 0 ? BAD : c;
            }
        }

        private int wordOf(int start, int stop) {
            int word = 0;
            int first = 0;
            for (int i = 0; i < WORDS.length(); i++) {
                if (WORDS.charAt(i) != ' ') {
                    continue;
                }
                if (i - first == stop - start && standsAt(first, start, stop)) {
                    return word;
                }
                word++;
                first = i + 1;
            }
            return BAD;
        }

        private boolean standsAt(int first, int start, int stop) {
            for (int i = start; i < stop; i++) {
                if (WORDS.charAt(first + i - start) != tape[i]) {
                    return false;
                }
            }
            return true;
        }

        private int numberOf(int start, int stop) {
            int n = 0;
            for (int i = start; i < stop; i++) {
                n = n * 10 + tape[i] - '0';
            }
            return n;
        }

        boolean readLaw(int begin) {
            law.clear();
            for (int line = 0; line <= MOST_LAW_LINES && kind[now] != END; line++) {
                if (kind[now] != begin) {
                    return fail(CANNOT_STAND);
                }
                if (line == MOST_LAW_LINES) {
                    return fail(TOO_MANY);
                }
                now++;
                boolean good = sum(begin) && (skip(WHEN) ? condition(begin) && law.put(-1 - WHEN) : law.put(-1 - ';'));
                if (!good || !need(';')) {
                    return false;
                }
                law.lines++;
            }
            return true;
        }

        /** B: 'or' waits until what 'and' joins on its right is read. */
        private boolean condition(int begin) {
            boolean waiting = false;
            boolean good = single(begin);
            for (int turn = 0; good && turn < MOST_TAPE && (kind[now] == AND || kind[now] == OR); turn++) {
                boolean both = kind[now] == AND;
                now++;
                if (!both && waiting) {
                    law.put(-1 - OR);
                }
                waiting = waiting || !both;
                good = single(begin);
                if (both) {
                    law.put(-1 - AND);
                }
            }
            if (waiting) {
                law.put(-1 - OR);
            }
            return good;
        }

        /** C; it and condition() call one another no deeper than MOST_OPEN. */
        private boolean single(int begin) {
            int token = kind[now];
            if (token != NOT && token != '(') {
                return comparison(begin);
            }
            if (opened >= MOST_OPEN) {
                return fail(TOO_MANY);
            }
            opened++;
            now++;
            boolean good = token == NOT ? single(begin) && law.put(-1 - NOT) : condition(begin) && need(')');
            opened--;
            return good;
        }

        private boolean comparison(int begin) {
            if (!sum(begin)) {
                return false;
            }
            int sign = kind[now];
            if (sign != '<' && sign != '=' && sign != '>') {
                return fail(CANNOT_STAND);
            }
            now++;
            return sum(begin) && law.put(-1 - sign);
        }

        /** E: a + or - waits until the T on its right is read. */
        private boolean sum(int begin) {
            int waiting = NONE;
            boolean good = unit(begin);
            for (int turn = 0; good && turn < MOST_TAPE; turn++) {
                int sign = kind[now];
                if (sign != '+' && sign != '-' && sign != '*' && sign != '/') {
                    break;
                }
                now++;
                if (sign == '*') {
                    good = unit(begin) && law.put(-1 - '*');
                } else if (sign == '/') {
                    good = wantNumber(1, 9999) && law.put(number) && law.put(-1 - '/');
                } else {
                    if (waiting != NONE) {
                        law.put(-1 - waiting);
                    }
                    waiting = sign;
                    good = unit(begin);
                }
            }
            if (waiting != NONE) {
                law.put(-1 - waiting);
            }
            return good;
        }

        private boolean unit(int begin) {
            int token = kind[now];
            if (token == NUMBER) {
                law.put(value[now]);
            } else if (token < OVER || token == OVER && begin == BEAR || within(token, BEARS, SWAY) && begin == TIRE) {
                law.put(-1 - token);
            } else {
                return fail(CANNOT_STAND);
            }
            now++;
            return true;
        }

        boolean readWay(int places, int bearers) {
            way.clear();
            for (int line = 0; line <= MOST_WAY_LINES && kind[now] != END; line++) {
                int begin = kind[now];
                if (!within(begin, WALK, CHANGE) && begin != CLOTH) {
                    return fail(CANNOT_STAND);
                }
                if (line == MOST_WAY_LINES) {
                    return fail(TOO_MANY);
                }
                now++;
                if (!wayLine(begin, places, bearers) || !need(';')) {
                    return false;
                }
            }
            return true;
        }

        private boolean wayLine(int begin, int places, int bearers) {
            int most = 200;
            if (begin == REST) {
                most = LONGEST_REST;
            } else if (begin == CHANGE || begin == CLOTH) {
                most = places - 1;
            }
            boolean ofPlace = begin == CHANGE || begin == CLOTH;
            if (!wantNumber(ofPlace ? 0 : 1, most)) {
                return false;
            }
            int first = number;
            int second = 0;
            int gravel = 0;
            if (begin == WALK) {
                boolean down = kind[now] == DOWN;
                if (skip(UP) || skip(DOWN)) {
                    if (!wantNumber(1, STEEPEST)) {
                        return false;
                    }
                    second = down ? -number : number;
                }
                gravel = skip(GRAVEL) ? 1 : 0;
            } else if (ofPlace) {
                boolean change = begin == CHANGE;
                if (!need(change ? TO : IN) || !wantNumber(0, change ? bearers - 1 : 6)) {
                    return false;
                }
                second = number;
            }
            way.add(begin, first, second, gravel);
            return true;
        }

        private boolean wantNumber(int least, int most) {
            if (kind[now] != NUMBER) {
                return fail(CANNOT_STAND);
            }
            number = value[now];
            if (!within(number, least, most)) {
                return fail(BEYOND);
            }
            now++;
            return true;
        }

        private boolean skip(int token) {
            if (kind[now] != token) {
                return false;
            }
            now++;
            return true;
        }

        private boolean need(int token) {
            return skip(token) || fail(CANNOT_STAND);
        }

        private boolean fail(int what) {
            fault = what;
            faultAt = from[now];
            return false;
        }
    }

    /** BEARS: who HOLDS, by what SHARE, and how the POUNDS are parted. */
    private static final class Bearing {
        final int[] load = new int[MOST_PLACES];
        final int[] facts = new int[FACTS];
        /** The PLACES of those who HOLD. */
        int holding = 0;
        /** Somebody would bear more than he CAN when it is parted first. */
        boolean tooMuch = false;
        private final int[] top = new int[MOST_PLACES];
        private final int[] share = new int[MOST_PLACES];
        private final int[] can = new int[MOST_PLACES];
        /**
         * SHARES that were asked before, while a search tries many settings on the level: by the PLACE, by what is
         * tried there (a BEARER or a CLOTH), by the least TOP.
         */
        private final int[] memo = new int[MOST_PLACES * MOST_BEARERS * TOPS];
        private boolean recalling = false;
        private boolean byCloth = false;

        void recall(boolean clothsAreTried) {
            Arrays.fill(memo, NONE);
            recalling = true;
            byCloth = clothsAreTried;
        }

        void recallNoMore() {
            recalling = false;
        }

        /** False if it FALLS. */
        boolean bears(World w, int slope, int letGo) {
            tooMuch = false;
            holding = 0;
            int least = GREATEST_INT;
            int places = w.places.count();
            for (int p = 0; p < places; p++) {
                load[p] = 0;
                int b = w.places.who[p];
                if (b != NONE && (letGo >> p & 1) == 0) {
                    holding |= 1 << p;
                    top[p] = w.top(p, slope);
                    least = Math.min(least, top[p]);
                    can[p] = w.crew.can(b);
                }
            }
            int bearing = 0;
            for (int p = 0; p < places; p++) {
                if ((holding >> p & 1) == 1) {
                    share[p] = shareAt(w, p, slope, least);
                    bearing |= share[p] > 0 ? 1 << p : 0;
                }
            }
            if (bearing == 0) {
                Arrays.fill(share, 1);
                bearing = holding;
            }
            return part(w.pounds, bearing);
        }

        private int shareAt(World w, int p, int slope, int least) {
            int over = top[p] - least;
            if (w.bearing.lines == 0) {
                return w.hands == 1 ? 1 : Math.min(over, 999);
            }
            int slot = NONE;
            if (recalling && within(least, LEAST_TOP, LEAST_TOP + TOPS - 1)) {
                slot = (p * MOST_BEARERS + (byCloth ? w.places.cloth[p] : w.places.who[p])) * TOPS + least - LEAST_TOP;
                if (memo[slot] != NONE) {
                    return memo[slot];
                }
            }
            describe(w, p, slope);
            facts[OVER] = over;
            int asked = heldTo(w.bearing.ask(facts, w.hands == 1 ? 1 : over), 0, 999);
            if (slot != NONE) {
                memo[slot] = asked;
            }
            return asked;
        }

        /** The facts that both LAWS ask for, of who is at a PLACE. */
        void describe(World w, int p, int slope) {
            int b = w.places.who[p];
            facts[TALL] = w.crew.tall[b];
            facts[STRENGTH] = w.crew.strength[b];
            facts[KNEE] = w.crew.knee[b];
            facts[TIRED] = w.crew.tired[b];
            facts[CLOTH] = w.places.cloth[p];
            facts[PAIR] = p / 2;
            facts[RIGHT] = p & 1;
            facts[UP] = Math.max(0, slope);
            facts[DOWN] = Math.max(0, -slope);
            facts[HANDS] = w.hands;
        }

        int canAt(int p) {
            return can[p];
        }

        private boolean part(int pounds, int bearing) {
            int left = pounds;
            int among = bearing;
            for (int round = 0; round <= MOST_PLACES && among != 0; round++) {
                int beyond = partOnce(left, among);
                tooMuch = tooMuch || beyond != 0;
                if (beyond == 0) {
                    handOutRest(left, among);
                    return true;
                }
                for (int p = 0; p < MOST_PLACES; p++) {
                    if ((beyond >> p & 1) == 1) {
                        load[p] = can[p];
                        left -= can[p];
                    }
                }
                among &= ~beyond;
            }
            Arrays.fill(load, 0);
            return false;
        }

        /** Which PLACES would bear more than they CAN. */
        private int partOnce(int left, int among) {
            int all = 0;
            for (int p = 0; p < MOST_PLACES; p++) {
                all += (among >> p & 1) == 1 ? share[p] : 0;
            }
            int beyond = 0;
            for (int p = 0; p < MOST_PLACES && all > 0; p++) {
                if ((among >> p & 1) == 1) {
                    load[p] = left * share[p] / all;
                    beyond |= load[p] > can[p] ? 1 << p : 0;
                }
            }
            return beyond;
        }

        private void handOutRest(int left, int among) {
            int rest = left;
            for (int p = 0; p < MOST_PLACES; p++) {
                rest -= (among >> p & 1) == 1 ? load[p] : 0;
            }
            for (int p = 0; p < MOST_PLACES && rest > 0; p++) {
                if ((among >> p & 1) == 1) {
                    load[p]++;
                    rest--;
                }
            }
        }

        int idleSet() {
            int idle = 0;
            for (int p = 0; p < MOST_PLACES; p++) {
                if ((holding >> p & 1) == 1 && load[p] == 0) {
                    idle |= 1 << p;
                }
            }
            return idle;
        }

        int spread() {
            int greatest = 0;
            int least = GREATEST_INT;
            for (int p = 0; p < MOST_PLACES; p++) {
                if ((holding >> p & 1) == 1) {
                    greatest = Math.max(greatest, load[p]);
                    least = Math.min(least, load[p]);
                }
            }
            return holding == 0 ? 0 : greatest - least;
        }
    }

    /** PACES, done and in thought. */
    private static final class Walk {
        int helpPlace = NONE;
        int helpBearer = NONE;
        int helpFar = NONE;
        private final World world;
        private final Bearing bearing;
        /** What is thought is walked in the world itself, which goes back to this afterwards. */
        private final Moment before = new Moment();
        /** The latest pace changed TIRED or SWAY. */
        private boolean changing = false;

        Walk(World newWorld, Bearing newBearing) {
            world = newWorld;
            bearing = newBearing;
        }

        boolean hasPace() {
            return world.next <= world.way.lastPace;
        }

        /** One PACE with the lines ahead of it, and with those behind if it is the last of all. */
        void step() {
            passLines();
            takePace(true);
            if (!hasPace()) {
                passLines();
            }
        }

        /** All lines up to the next one that has paces. */
        private void passLines() {
            Way way = world.way;
            while (world.next < way.lines && way.kind[world.next] != WALK && way.kind[world.next] != GATE) {
                passLine(way.kind[world.next], way.first[world.next], way.second[world.next]);
                world.next++;
            }
        }

        private void passLine(int kind, int first, int second) {
            if (kind == REST) {
                world.crew.ease(first * world.ease);
                world.book.write(world.pace, RESTED, first, NONE);
            } else if (!world.places.has(first)) {
                return;
            } else if (kind == CLOTH) {
                world.places.cloth[first] = second;
            } else if (world.crew.has(second)) {
                world.places.put(first, second);
                world.book.write(world.pace, CHANGED, first, second);
            }
        }

        private void takePace(boolean draws) {
            int line = world.next;
            if (line >= world.way.lines) {
                return;
            }
            int gravel = world.way.gravel[line];
            int letGo = gatePair();
            if (draws && world.slip > 0) {
                letGo |= slipping(gravel);
            }
            if (!carry(slopeNow(), gravel, letGo)) {
                world.falls++;
                world.sway = 0;
                world.crew.ease(world.ease);
                world.book.write(world.pace, FELL, 0, NONE);
            }
            world.pace++;
            world.done++;
            if (world.done >= world.way.first[line]) {
                world.next++;
                world.done = 0;
            }
        }

        private int slopeNow() {
            return world.next < world.way.lines ? world.way.second[world.next] : 0;
        }

        /** The two PLACES of the pair that lets go in a gate. */
        private int gatePair() {
            int line = world.next;
            if (line >= world.way.lines || world.way.kind[line] != GATE || world.way.first[line] < 1) {
                return 0;
            }
            return 3 << 2 * (world.done * world.places.pairs / world.way.first[line]);
        }

        private int slipping(int gravel) {
            int bound = Math.min(1000, world.slip << gravel);
            if (world.draw(1000) >= bound) {
                return 0;
            }
            int p = world.draw(world.places.count());
            if (world.places.who[p] != NONE) {
                world.book.write(world.pace, SLIPPED, p, world.places.who[p]);
            }
            return 1 << p;
        }

        /** False, with nothing changed, if it FALLS. */
        private boolean carry(int slope, int gravel, int letGo) {
            if (!bearing.bears(world, slope, letGo)) {
                return false;
            }
            changing = false;
            for (int p = 0; p < MOST_PLACES; p++) {
                if ((bearing.holding >> p & 1) == 1) {
                    int b = world.places.who[p];
                    int tired = Math.min(MOST_TIRED, world.crew.tired[b] + tiring(p, slope, gravel));
                    changing = changing || tired != world.crew.tired[b];
                    world.crew.tired[b] = tired;
                }
            }
            int sway = world.swayNext(world.sway, world.wrongSteps(bearing.holding));
            changing = changing || sway != world.sway;
            world.sway = sway;
            return true;
        }

        /** It asks of nobody else's TIRED, so each may be tired as soon as he is asked. */
        private int tiring(int p, int slope, int gravel) {
            int otherwise = bearing.load[p] / 20;
            if (world.tiring.lines == 0) {
                return heldTo(otherwise, 0, 99);
            }
            bearing.describe(world, p, slope);
            bearing.facts[BEARS] = bearing.load[p];
            bearing.facts[CAN] = bearing.canAt(p);
            bearing.facts[GRAVEL] = gravel;
            bearing.facts[SWAY] = world.sway;
            return heldTo(world.tiring.ask(bearing.facts, otherwise), 0, 99);
        }

        int farOn(int slope) {
            before.take(world);
            int paces = 0;
            while (paces < FARTHEST && carry(slope, 0, 0)) {
                // A pace that changes nothing is followed by the like for ever.
                paces = changing ? paces + 1 : FARTHEST;
            }
            before.giveBack(world);
            return paces;
        }

        int swayAfter(int n) {
            int wrong = world.wrongSteps(world.places.heldSet());
            int sway = world.sway;
            for (int i = 0; i < n; i++) {
                sway = world.swayNext(sway, wrong);
            }
            return sway;
        }

        int goesOn(int what) {
            before.take(world);
            int paces = 0;
            while (paces < MOST_WAY_LINES * MOST_CALL_PACES && hasPace()) {
                passLines();
                takePace(false);
                paces++;
            }
            if (paces > 0) {
                passLines();
            }
            int falls = world.falls;
            int tired = world.crew.mostTired();
            before.giveBack(world);
            if (what == 0) {
                return paces;
            }
            return what == 1 ? falls - world.falls : tired;
        }

        int restsNeeded() {
            before.take(world);
            int minutes = 0;
            for (int i = 0; i < MOST_WAY_LINES * MOST_CALL_PACES && minutes != NONE && hasPace(); i++) {
                passLines();
                int more = restAhead();
                minutes = more == NONE ? NONE : minutes + more;
                takePace(false);
            }
            before.giveBack(world);
            return minutes;
        }

        private int restAhead() {
            for (int minutes = 0; minutes <= LONGEST_REST; minutes++) {
                if (bearing.bears(world, slopeNow(), gatePair())) {
                    return minutes;
                }
                world.crew.ease(world.ease);
            }
            return NONE;
        }

        void findHelp() {
            helpPlace = NONE;
            helpBearer = NONE;
            helpFar = farOn(0);
            int[] who = world.places.who;
            for (int p = 0; p < world.places.count(); p++) {
                int own = who[p];
                for (int b = 0; b < world.crew.size && own != NONE; b++) {
                    if (world.places.placeOf(b) != NONE) {
                        continue;
                    }
                    who[p] = b;
                    int paces = farOn(0);
                    who[p] = own;
                    if (paces > helpFar) {
                        helpPlace = p;
                        helpBearer = b;
                        helpFar = paces;
                    }
                }
            }
        }
    }

    /** ORDER, CLOTHS and FITS: all settings are tried in the world itself, which then goes back. */
    private static final class Search {
        int orderSpread = NONE;
        final int[] orderWho = new int[MOST_PLACES];
        int clothSpread = NONE;
        int clothInches = 0;
        final int[] clothBest = new int[MOST_PLACES];
        int fitCount = 0;
        final int[] fitWho = new int[MOST_PLACES];
        private final World world;
        private final Bearing bearing;
        private final Moment before = new Moment();
        private boolean fitting = false;

        Search(World newWorld, Bearing newBearing) {
            world = newWorld;
            bearing = newBearing;
        }

        /** Somebody is at each of the KEPT PLACES. */
        int findOrder(int kept) {
            orderSpread = NONE;
            fitting = false;
            int used = 0;
            for (int p = 0; p < world.places.count(); p++) {
                if ((kept >> p & 1) == 1) {
                    used |= 1 << world.places.who[p];
                }
            }
            before.take(world);
            bearing.recall(false);
            fill(0, kept, used);
            bearing.recallNoMore();
            before.giveBack(world);
            return orderSpread;
        }

        void findFits() {
            fitCount = 0;
            fitting = true;
            before.take(world);
            bearing.recall(false);
            fill(0, 0, 0);
            bearing.recallNoMore();
            before.giveBack(world);
        }

        /** The PLACES ahead of p are filled; it calls itself once for each PLACE. */
        private void fill(int p, int kept, int used) {
            if (!world.places.has(p)) {
                judge();
                return;
            }
            if ((kept >> p & 1) == 1) {
                fill(p + 1, kept, used);
                return;
            }
            for (int b = 0; b < world.crew.size && (fitting || orderSpread != 0); b++) {
                if ((used >> b & 1) == 0) {
                    world.places.who[p] = b;
                    fill(p + 1, kept, used | 1 << b);
                }
            }
        }

        private void judge() {
            if (!bearing.bears(world, 0, 0)) {
                return;
            }
            if (fitting) {
                if (isAsSeen()) {
                    fitCount++;
                    if (fitCount == 1) {
                        copy(world.places.who, fitWho);
                    }
                }
                return;
            }
            int spread = bearing.spread();
            if (!bearing.tooMuch && (orderSpread == NONE || spread < orderSpread)) {
                orderSpread = spread;
                copy(world.places.who, orderWho);
            }
        }

        private boolean isAsSeen() {
            for (int p = 0; p < world.places.count(); p++) {
                if (world.places.seen[p] != NONE && world.places.seen[p] != bearing.load[p]) {
                    return false;
                }
            }
            return true;
        }

        void findCloths() {
            clothSpread = NONE;
            clothInches = 0;
            before.take(world);
            bearing.recall(true);
            lay(0, 0);
            bearing.recallNoMore();
            before.giveBack(world);
        }

        /** The PLACES ahead of p have their CLOTHS; it calls itself once for each PLACE. */
        private void lay(int p, int inches) {
            if (!world.places.has(p)) {
                judgeCloths(inches);
                return;
            }
            // Where nobody is, a CLOTH is but inches more.
            int most = world.places.who[p] == NONE ? 0 : 3;
            for (int c = 0; c <= most && !isInVain(inches + c); c++) {
                world.places.cloth[p] = c;
                lay(p + 1, inches + c);
            }
        }

        private boolean isInVain(int inches) {
            return clothSpread == 0 && inches >= clothInches;
        }

        private void judgeCloths(int inches) {
            if (!bearing.bears(world, 0, 0)) {
                return;
            }
            int spread = bearing.spread();
            boolean better = clothSpread == NONE || spread < clothSpread;
            if (better || spread == clothSpread && inches < clothInches) {
                clothSpread = spread;
                clothInches = inches;
                copy(world.places.cloth, clothBest);
            }
        }
    }
}
