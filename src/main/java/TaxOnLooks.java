import java.util.Arrays;

/**
 * A tax on being looked at: a town of squares with walls, people by kinds who look along the
 * streets, and bailiffs on balconies who enter the glances. The numbers of the promises and the
 * words in capitals are those of the document.
 */
public final class TaxOnLooks {
    public static final int NONE = -1;

    private static final int NOBODY = -1;
    private static final int OTHER = -2;
    private static final int NOTHING = -3;
    private static final int BELOW = -4;
    private static final int BEYOND = -5;
    private static final int WRONG = -6;
    private static final int ROOM = -7;
    private static final int ALLOWED = 0;
    private static final int REFUSALS = 7;
    /** Where NONE is an answer, refusals are told this much lower, so that -1 stays free. */
    private static final int LOWERED = 10;

    private static final int SIDE = 6;
    private static final int SQUARES = 36;
    private static final int WAYS = 4;
    private static final int MOST_PEOPLE = 7;
    private static final int MOST_LOOKS = 20;
    private static final int MOST_SHAME = 9;
    private static final int MOST_A = 9;
    private static final int MOST_PURSE = 9999;
    private static final int MOST_MITE = 9;
    private static final int MOST_REACH = 5;
    private static final int MOST_HOURS = 40;
    private static final int MOST_STEPS = 40;
    private static final int MOST_SACKS = 3;

    private static final int SHELVES = 8;
    private static final int SORTS = 4;
    private static final int MOST_ELEMENTS = 160;

    private static final int PERSON = 0;
    private static final int BEAUTY = 1;
    private static final int ACTRESS = 2;
    private static final int BLIND = 3;
    private static final int LOVER = 4;
    private static final int CHILD = 5;
    private static final int SHAMED = 6;
    private static final int KINDS = 7;
    private static final int[] ABOVE = {NONE, PERSON, BEAUTY, PERSON, PERSON, BLIND, LOVER};

    private static final int LOOKING = 0;
    private static final int WALKING = 1;
    private static final int PAYING = 2;
    private static final int MOVES = 3;
    /** By kinds, and in them by moves: the number of the body, or NONE. */
    private static final int[] BODIES = {
        10, 11, 12,
        20, NONE, NONE,
        40, NONE, NONE,
        NONE, 30, NONE,
        51, NONE, 50,
        NONE, NONE, 60,
        70, 71, NONE,
    };
    private static final int MOST_TRACE = 20;
    /** More levels than any move needs, so that a wrong table could not send it down for ever. */
    private static final int DEEPEST = 16;

    private final Town town = new Town();
    private final Town trial = new Town();
    private final Town image = new Town();
    private boolean imageTaken;
    private final Roll roll = new Roll();
    private final Planner planner = new Planner();
    private final Strolls strolls = new Strolls();
    private final Reader reader = new Reader();
    private final Actor actor = new Actor();
    private final Shelf[] shelves = new Shelf[SHELVES];
    private final int[] refusals = new int[REFUSALS + 1];

    public TaxOnLooks() {
        for (int s = 0; s < SHELVES; s++) {
            shelves[s] = new Shelf();
        }
    }

    // Shelves

    public int row(int s, int sort, int n) {
        if (!isShelf(s)) {
            return refuse(NOBODY);
        }
        if (n < 0) {
            return refuse(BELOW);
        }
        if (sort < 0 || sort >= SORTS) {
            return refuse(WRONG);
        }
        if (n > MOST_ELEMENTS) {
            return refuse(ROOM);
        }
        shelves[s].holdRow(sort, n);
        return 1;
    }

    public int set(int s, int i, long v) {
        int refusal = rowRefusal(s);
        if (refusal != ALLOWED) {
            return refuse(refusal);
        }
        if (!shelves[s].hasElement(i)) {
            return refuse(BEYOND);
        }
        shelves[s].putElement(i, v);
        return 1;
    }

    public int copy(int p, int q, int i, int j, int n) {
        int refusal = copyRefusal(p, q);
        if (refusal != ALLOWED) {
            return refuse(refusal);
        }
        if (n < 0) {
            return refuse(BELOW);
        }
        if (!shelves[p].hasElements(i, n) || !shelves[q].hasElements(j, n)) {
            return refuse(BEYOND);
        }
        System.arraycopy(shelves[p].elements, i, shelves[q].elements, j, n);
        return 1;
    }

    public long element(int s, int i) {
        if (!isShelf(s) || !shelves[s].hasElement(i)) {
            return 0;
        }
        return shelves[s].elements[i];
    }

    public int show(int s, int person) {
        if (!isShelf(s) || person != NONE && !isPerson(person)) {
            return refuse(NOBODY);
        }
        if (person == NONE) {
            shelves[s].holdNothing();
            return 0;
        }
        shelves[s].holdPerson(person);
        return 1;
    }

    public int holds(int s) {
        return isShelf(s) ? shelves[s].told() : NONE;
    }

    public int says(int s, int kind) {
        if (!isShelf(s) || !isKind(kind)) {
            return refuse(NOBODY);
        }
        if (shelves[s].isRow()) {
            return refuse(OTHER);
        }
        if (!shelves[s].isPerson()) {
            return refuse(NOTHING);
        }
        Person who = town.people[shelves[s].person];
        if (!who.isOf(kind)) {
            return refuse(OTHER);
        }
        return sayingOf(who, kind);
    }

    // The town

    public int person(int kind, int a, int looks, int shame, int purse, int at) {
        if (!isKind(kind)) {
            return refuse(NOBODY);
        }
        if (!within(a, MOST_A) || !within(looks, MOST_LOOKS) || !within(shame, MOST_SHAME)
                || !within(purse, MOST_PURSE) || !town.isOpen(at)) {
            return refuse(WRONG);
        }
        if (!town.hasRoom()) {
            return refuse(ROOM);
        }
        Person who = town.people[town.count];
        who.become(kind, a, looks);
        who.place(shame, purse, at);
        town.count++;
        return town.count - 1;
    }

    public int build(int square, int what, boolean is) {
        if (!isSquare(square) || !within(what, 1)) {
            return refuse(WRONG);
        }
        if (what == 1) {
            boolean was = town.hasBalcony(square);
            town.putBalcony(square, is);
            return bit(was);
        }
        if (is && town.peopleAt(square) != 0) {
            return refuse(WRONG);
        }
        boolean was = town.isWall(square);
        town.putWall(square, is);
        return bit(was);
    }

    public int put(int person, int square) {
        if (!isPerson(person)) {
            return refuse(NOBODY);
        }
        if (!town.isOpen(square)) {
            return refuse(WRONG);
        }
        int was = town.people[person].at;
        town.people[person].at = square;
        return was;
    }

    public int sack(int person, boolean is) {
        if (!isPerson(person)) {
            return refuse(NOBODY);
        }
        boolean was = town.people[person].sacked;
        town.people[person].sacked = is;
        return bit(was);
    }

    public int ask(int what, int v) {
        int was;
        if (what == 0 && v >= 1 && v <= MOST_MITE) {
            was = town.mite;
            town.mite = v;
            return was;
        }
        if (what == 1 && v >= 1 && v <= MOST_REACH) {
            was = town.reach;
            town.reach = v;
            return was;
        }
        if (what == 2 && within(v, 1)) {
            was = bit(town.rain);
            town.rain = v == 1;
            return was;
        }
        return refuse(WRONG);
    }

    public int personOf(int person, int what) {
        if (!isPerson(person) || !within(what, 7)) {
            return refuse(BEYOND);
        }
        Person who = town.people[person];
        switch (what) {
            case 0: return who.kind;
            case 1: return who.a;
            case 2: return who.looks;
            case 3: return who.shame;
            case 4: return who.purse;
            case 5: return who.at;
            case 6: return bit(who.sacked);
            default: return who.shown(town.rain);
        }
    }

    public int squareOf(int square, int what) {
        if (!isSquare(square) || !within(what, 2)) {
            return refuse(BEYOND);
        }
        switch (what) {
            case 0: return bit(town.isWall(square));
            case 1: return bit(town.hasBalcony(square));
            default: return town.peopleAt(square);
        }
    }

    public int town(int s) {
        int refusal = rowRefusal(s);
        if (refusal != ALLOWED) {
            return refuse(refusal);
        }
        trial.copyFrom(town);
        int items = reader.read(shelves[s], trial);
        if (items == NONE) {
            return refuse(WRONG);
        }
        town.copyFrom(trial);
        return items;
    }

    public int fault() {
        return reader.fault;
    }

    // Glances

    public int view(int from, int to) {
        if (!isSquare(from) || !isSquare(to)) {
            return refuse(WRONG);
        }
        return bit(hasBit(town.viewFrom(from), to));
    }

    public int glances(int person, int what) {
        if (!isPerson(person)) {
            return refuse(NOBODY);
        }
        if (!within(what, 1)) {
            return refuse(BEYOND);
        }
        roll.take(town);
        return what == 0 ? roll.lookersAt(town, person) : roll.glanced[person];
    }

    public int duty(int person, int what) {
        if (!isPerson(person)) {
            return refuse(NOBODY);
        }
        if (!within(what, 1)) {
            return refuse(BEYOND);
        }
        roll.take(town);
        return what == 0 ? roll.duties[person] : roll.fines[person];
    }

    public int all(int what) {
        if (!within(what, 3)) {
            return refuse(BEYOND);
        }
        roll.take(town);
        switch (what) {
            case 0: return roll.dutiesTogether(town);
            case 1: return roll.entered * town.mite;
            case 2: return roll.ruined(town);
            default: return roll.solvent(town);
        }
    }

    // What comes of it

    public int walk(int person, int square, int what) {
        if (!isPerson(person)) {
            return refuseLowered(NOBODY);
        }
        if (!within(what, 2)) {
            return refuseLowered(BEYOND);
        }
        if (!town.isOpen(square)) {
            return refuseLowered(WRONG);
        }
        return planner.wayTo(town, person, square, what);
    }

    public int stand(int person, int what) {
        if (!isPerson(person)) {
            return refuse(NOBODY);
        }
        if (!within(what, 1)) {
            return refuse(BEYOND);
        }
        return planner.bestStand(town, person, what);
    }

    public int sacks(int k, int what) {
        if (!within(what, 1)) {
            return refuseLowered(BEYOND);
        }
        if (!within(k, MOST_SACKS)) {
            return refuseLowered(WRONG);
        }
        return planner.bestSacks(town, k, what);
    }

    public int balconies(int what) {
        if (!within(what, 1)) {
            return refuse(BEYOND);
        }
        return planner.bestBalcony(town, what);
    }

    public int fits(int s, int person) {
        if (!isPerson(person)) {
            return refuse(NOBODY);
        }
        int refusal = rowRefusal(s);
        if (refusal != ALLOWED) {
            return refuse(refusal);
        }
        if (shelves[s].length < town.count) {
            return refuse(BEYOND);
        }
        return planner.fittingLooks(town, person, shelves[s]);
    }

    public int most(int what) {
        if (town.count == 0 || !within(what, 1)) {
            return refuse(BEYOND);
        }
        return what == 0 ? planner.whoOwesMost(town) : planner.bestWithout(town);
    }

    public int crowd(int what) {
        if (!within(what, 1)) {
            return refuse(BEYOND);
        }
        return what == 0 ? planner.mostSeen(town) : Long.bitCount(town.lit());
    }

    public int judge(int s, int n) {
        int refusal = strollRefusal(s, n, false);
        if (refusal != ALLOWED) {
            return refuseLowered(refusal);
        }
        trial.copyFrom(town);
        return strolls.follow(trial, shelves[s], n);
    }

    public int behind(int s, int n, int what) {
        boolean untold = !within(what, 2) || what == 1 && town.count == 0;
        int refusal = tryStroll(s, n, untold);
        if (refusal != ALLOWED) {
            return refuse(refusal);
        }
        switch (what) {
            case 0: return trial.taken - town.taken;
            case 1: return trial.people[0].at;
            default: return trial.emptyPurses();
        }
    }

    public int done(int s, int n) {
        int refusal = tryStroll(s, n, false);
        if (refusal != ALLOWED) {
            return refuse(refusal);
        }
        town.copyFrom(trial);
        town.hours++;
        return town.taken;
    }

    public int hours(int n) {
        if (n < 1 || n > MOST_HOURS) {
            return refuse(WRONG);
        }
        for (int hour = 0; hour < n; hour++) {
            strolls.passHour(town);
        }
        return town.taken;
    }

    public int seed(int v) {
        int was = town.seed;
        town.seed = v;
        return was;
    }

    // Moves

    public int act(int person, int move, int x) {
        if (!isPerson(person) || !within(move, MOVES - 1)) {
            actor.rest();
            return 0;
        }
        return actor.perform(town.people[person], person, move, x);
    }

    public int trace(int i) {
        return i >= 0 && i < actor.ran && i < MOST_TRACE ? actor.kept[i] : NONE;
    }

    // The image

    public int image() {
        image.copyFrom(town);
        imageTaken = true;
        return town.count;
    }

    public int restore() {
        if (!imageTaken) {
            return refuse(WRONG);
        }
        town.copyFrom(image);
        for (Shelf shelf : shelves) {
            if (shelf.isPerson() && shelf.person >= town.count) {
                shelf.holdNothing();
            }
        }
        return town.count;
    }

    public int status(int what) {
        if (what > 10 && what <= 10 + REFUSALS) {
            return refusals[what - 10];
        }
        switch (what) {
            case 0: return town.count;
            case 1: return Long.bitCount(town.walls);
            case 2: return Long.bitCount(town.balconied);
            case 3: return town.mite;
            case 4: return town.reach;
            case 5: return bit(town.rain);
            case 6: return town.hours;
            case 7: return town.taken;
            case 8: return town.pursesTogether();
            case 9: return town.seed;
            case 10: return actor.ran;
            default: return NONE;
        }
    }

    // Refusals

    private int refuse(int refusal) {
        int which = -refusal;
        if (which >= 1 && which <= REFUSALS) {
            refusals[which]++;
        }
        return refusal;
    }

    private int refuseLowered(int refusal) {
        return refuse(refusal) - LOWERED;
    }

    private int rowRefusal(int s) {
        if (!isShelf(s)) {
            return NOBODY;
        }
        if (shelves[s].isPerson()) {
            return OTHER;
        }
        return shelves[s].isRow() ? ALLOWED : NOTHING;
    }

    private int copyRefusal(int p, int q) {
        if (!isShelf(p) || !isShelf(q)) {
            return NOBODY;
        }
        Shelf from = shelves[p];
        Shelf to = shelves[q];
        if (from.isPerson() || to.isPerson()) {
            return OTHER;
        }
        if (!from.isRow() || !to.isRow()) {
            return NOTHING;
        }
        return from.sort == to.sort ? ALLOWED : OTHER;
    }

    private int strollRefusal(int s, int n, boolean untold) {
        int refusal = rowRefusal(s);
        if (refusal != ALLOWED) {
            return refusal;
        }
        if (n < 0) {
            return BELOW;
        }
        if (n > shelves[s].length || untold) {
            return BEYOND;
        }
        return n > MOST_STEPS ? WRONG : ALLOWED;
    }

    /** Lets a stroll come to pass in the trial town, if it may be told and isn't wrong. */
    private int tryStroll(int s, int n, boolean untold) {
        int refusal = strollRefusal(s, n, untold);
        if (refusal != ALLOWED) {
            return refusal;
        }
        trial.copyFrom(town);
        return strolls.follow(trial, shelves[s], n) == NONE ? ALLOWED : WRONG;
    }

    private boolean isPerson(int person) {
        return person >= 0 && person < town.count;
    }

    private int sayingOf(Person who, int kind) {
        switch (kind) {
            case BEAUTY:
            case ACTRESS:
                return who.shown(town.rain);
            case BLIND:
            case CHILD:
                return who.purse;
            case LOVER:
            case SHAMED:
                return who.shame;
            default:
                return who.at;
        }
    }

    // Small things

    private static boolean within(int v, int most) {
        return v >= 0 && v <= most;
    }

    private static boolean isShelf(int s) {
        return within(s, SHELVES - 1);
    }

    private static boolean isKind(int kind) {
        return within(kind, KINDS - 1);
    }

    private static boolean isSquare(int square) {
        return square >= 0 && square < SQUARES;
    }

    private static int bit(boolean is) {
        return is ? 1 : 0;
    }

    private static boolean hasBit(long bits, int i) {
        return (bits >>> i & 1L) != 0;
    }

    private static long withBit(long bits, int i, boolean is) {
        return is ? bits | 1L << i : bits & ~(1L << i);
    }

    private static int above(int kind) {
        return kind >= 0 && kind < KINDS ? ABOVE[kind] : NONE;
    }

    /** Of squares in one row or one column. */
    private static int distance(int from, int to) {
        return Math.abs(from / SIDE - to / SIDE) + Math.abs(from % SIDE - to % SIDE);
    }

    private static int beside(int square, int way) {
        switch (way) {
            case 0: return square >= SIDE ? square - SIDE : NONE;
            case 1: return square % SIDE < SIDE - 1 ? square + 1 : NONE;
            case 2: return square < SQUARES - SIDE ? square + SIDE : NONE;
            case 3: return square % SIDE > 0 ? square - 1 : NONE;
            default: return NONE;
        }
    }

    /** What one of the shelves holds; its room for a row is made once and used again. */
    private static final class Shelf {
        private static final int EMPTY = -1;
        private static final int PEOPLE = -2;

        /** The sort of the row, EMPTY or PEOPLE. */
        private int sort = EMPTY;
        private int length;
        private int person;
        private final long[] elements = new long[MOST_ELEMENTS];

        boolean isRow() {
            return sort >= 0;
        }

        boolean isPerson() {
            return sort == PEOPLE;
        }

        void holdNothing() {
            sort = EMPTY;
            length = 0;
        }

        void holdPerson(int number) {
            sort = PEOPLE;
            length = 0;
            person = number;
        }

        void holdRow(int newSort, int newLength) {
            sort = newSort;
            length = newLength;
            Arrays.fill(elements, 0L);
        }

        int told() {
            if (isRow()) {
                return 100 + sort;
            }
            return isPerson() ? person : NONE;
        }

        boolean hasElement(int i) {
            return i >= 0 && i < length;
        }

        boolean hasElements(int first, int n) {
            return first >= 0 && n >= 0 && first <= length && n <= length - first;
        }

        void putElement(int i, long v) {
            switch (sort) {
                case 0: elements[i] = (byte) v; break;
                case 1: elements[i] = (short) v; break;
                case 2: elements[i] = (int) v; break;
                default: elements[i] = v;
            }
        }

        /** An element read as an int; NONE behind the end, as no letter, step or duty is below 0. */
        int readAt(int i) {
            return i >= 0 && i < length ? (int) elements[i] : NONE;
        }
    }

    private static final class Person {
        private int kind;
        private int a;
        private int looks;
        private int shame;
        private int purse;
        private int at;
        private boolean sacked;

        void become(int newKind, int newA, int newLooks) {
            kind = newKind;
            a = newA;
            looks = newLooks;
            sacked = false;
        }

        void place(int newShame, int newPurse, int newAt) {
            shame = newShame;
            purse = newPurse;
            at = newAt;
        }

        void copyFrom(Person other) {
            become(other.kind, other.a, other.looks);
            place(other.shame, other.purse, other.at);
            sacked = other.sacked;
        }

        /** Whether he is of a kind, or of one under it. */
        boolean isOf(int wanted) {
            int mine = kind;
            for (int up = 0; up < KINDS && mine != NONE; up++) {
                if (mine == wanted) {
                    return true;
                }
                mine = mine > PERSON && mine < KINDS ? ABOVE[mine] : NONE;
            }
            return false;
        }

        int shown(boolean rain) {
            if (sacked) {
                return 0;
            }
            return rain ? shownInSun() / 2 : shownInSun();
        }

        private int shownInSun() {
            switch (kind) {
                case BEAUTY: return looks * 2;
                case ACTRESS: return looks * 2 + a;
                case SHAMED: return Math.max(0, looks - shame);
                default: return looks;
            }
        }
    }

    /** All that an image keeps; trials are made in copies. */
    private static final class Town {
        private final Person[] people = new Person[MOST_PEOPLE];
        private int count;
        private long walls;
        private long balconied;
        private int mite = 1;
        private int reach = MOST_REACH;
        private boolean rain;
        private int hours;
        private int taken;
        private int seed = 1;

        Town() {
            for (int i = 0; i < MOST_PEOPLE; i++) {
                people[i] = new Person();
            }
        }

        void copyFrom(Town other) {
            for (int i = 0; i < other.count; i++) {
                people[i].copyFrom(other.people[i]);
            }
            count = other.count;
            walls = other.walls;
            balconied = other.balconied;
            mite = other.mite;
            reach = other.reach;
            rain = other.rain;
            hours = other.hours;
            taken = other.taken;
            seed = other.seed;
        }

        boolean hasRoom() {
            return count < MOST_PEOPLE;
        }

        boolean isWall(int square) {
            return (walls >>> square & 1L) != 0;
        }

        boolean hasBalcony(int square) {
            return hasBit(balconied, square);
        }

        /** Whether there is such a square, and one may be at it. */
        boolean isOpen(int square) {
            return isSquare(square) && !isWall(square);
        }

        void putWall(int square, boolean is) {
            walls = withBit(walls, square, is);
        }

        void putBalcony(int square, boolean is) {
            balconied = withBit(balconied, square, is);
        }

        int peopleAt(int square) {
            int there = 0;
            for (int i = 0; i < count; i++) {
                if (people[i].at == square) {
                    there |= 1 << i;
                }
            }
            return there;
        }

        /** The square to which a step that way leads, or NONE. */
        int stepFrom(int square, int way) {
            int next = beside(square, way);
            return isOpen(next) ? next : NONE;
        }

        /** The squares in view, as bits; who is in view of whom is the same both ways. */
        long viewFrom(int square) {
            long seen = 1L << square;
            for (int way = 0; way < WAYS; way++) {
                int next = beside(square, way);
                for (int off = 1; off <= reach && next != NONE; off++) {
                    seen |= 1L << next;
                    next = isWall(next) ? NONE : beside(next, way);
                }
            }
            return seen;
        }

        boolean isLit(int square) {
            return (viewFrom(square) & balconied) != 0;
        }

        long lit() {
            long all = 0;
            for (int square = 0; square < SQUARES; square++) {
                if (isLit(square)) {
                    all |= 1L << square;
                }
            }
            return all;
        }

        int pursesTogether() {
            int sum = 0;
            for (int i = 0; i < count; i++) {
                sum += people[i].purse;
            }
            return sum;
        }

        int emptyPurses() {
            int empty = 0;
            for (int i = 0; i < count; i++) {
                empty += bit(people[i].purse == 0);
            }
            return empty;
        }

        void pay(Person who, int owed) {
            int paid = Math.min(owed, who.purse);
            who.purse -= paid;
            taken += paid;
        }

        int draw(int below) {
            seed = seed * 1103515245 + 12345;
            return below > 0 ? (seed >>> 16) % below : 0;
        }
    }

    /** Who glances at whom, and what each owes for it, as a town is when the roll is taken. */
    private static final class Roll {
        /** By people: the squares in view of each, as bits, and what each shows. */
        private final long[] views = new long[MOST_PEOPLE];
        private final int[] shows = new int[MOST_PEOPLE];
        /** By lookers: those at whom each glances, as bits. */
        private final int[] glanced = new int[MOST_PEOPLE];
        private final int[] duties = new int[MOST_PEOPLE];
        private final int[] fines = new int[MOST_PEOPLE];
        private int entered;

        void take(Town town) {
            entered = 0;
            for (int i = 0; i < town.count; i++) {
                views[i] = town.viewFrom(town.people[i].at);
                shows[i] = town.people[i].shown(town.rain);
                fines[i] = 0;
            }
            for (int i = 0; i < town.count; i++) {
                int some = worthAGlance(town, i);
                glanced[i] = town.people[i].isOf(LOVER) ? dearestOf(town, i, some) : some;
            }
            for (int i = 0; i < town.count; i++) {
                boolean lit = (views[i] & town.balconied) != 0;
                int lookers = lit ? lookersAt(town, i) : 0;
                enter(town, lookers);
                duties[i] = dutyFor(town.people[i].kind, Integer.bitCount(lookers) * town.mite);
            }
        }

        int lookersAt(Town town, int person) {
            int lookers = 0;
            for (int i = 0; i < town.count; i++) {
                if (hasBit(glanced[i], person)) {
                    lookers |= 1 << i;
                }
            }
            return lookers;
        }

        int dutiesTogether(Town town) {
            int sum = 0;
            for (int i = 0; i < town.count; i++) {
                sum += duties[i];
            }
            return sum;
        }

        int ruined(Town town) {
            int bits = 0;
            for (int i = 0; i < town.count; i++) {
                if (duties[i] > town.people[i].purse) {
                    bits |= 1 << i;
                }
            }
            return bits;
        }

        int solvent(Town town) {
            int free = 0;
            for (int i = 0; i < town.count; i++) {
                free += bit(duties[i] == 0);
            }
            return free;
        }

        private void enter(Town town, int lookers) {
            entered += Integer.bitCount(lookers);
            for (int i = 0; i < town.count; i++) {
                if (hasBit(lookers, i)) {
                    fines[i] += town.mite;
                }
            }
        }

        private static int dutyFor(int kind, int mites) {
            switch (kind) {
                case ACTRESS: return mites - mites / 9;
                case CHILD: return 0;
                default: return mites;
            }
        }

        /** At whom one would glance, if he were no lover. */
        private int worthAGlance(Town town, int person) {
            Person who = town.people[person];
            if (who.isOf(BLIND)) {
                return 0;
            }
            int some = 0;
            for (int i = 0; i < town.count; i++) {
                int at = town.people[i].at;
                if (i != person && hasBit(views[person], at)
                        && shows[i] > who.shame + distance(who.at, at)) {
                    some |= 1 << i;
                }
            }
            return some;
        }

        /** The nearest of some, then the one of the greatest show, then the first; as a bit. */
        private int dearestOf(Town town, int person, int some) {
            int dearest = 0;
            int near = 0;
            int great = 0;
            for (int i = 0; i < town.count; i++) {
                int off = distance(town.people[person].at, town.people[i].at);
                if (hasBit(some, i)
                        && (dearest == 0 || off < near || off == near && shows[i] > great)) {
                    dearest = 1 << i;
                    near = off;
                    great = shows[i];
                }
            }
            return dearest;
        }
    }

    /** What would be best; all is tried in a copy of the town. */
    private static final class Planner {
        /** Above the steps of any walk, so that a cost and its steps go into one number. */
        private static final int STEPS = 64;
        private static final int FAR = 1 << 28;

        private final Town trial = new Town();
        private final Roll roll = new Roll();
        /** By squares: what coming there costs, and the way from there to where one wants. */
        private final int[] costs = new int[SQUARES];
        private final int[] away = new int[SQUARES];

        int wayTo(Town town, int person, int target, int what) {
            int from = town.people[person].at;
            trial.copyFrom(town);
            weigh(person);
            measure(target);
            if (away[from] == FAR) {
                return NONE;
            }
            switch (what) {
                case 0: return away[from] / STEPS;
                case 1: return away[from] % STEPS;
                default: return from == target ? target : firstOn(from);
            }
        }

        int bestStand(Town town, int person, int what) {
            trial.copyFrom(town);
            int best = NONE;
            int least = 0;
            for (int square = 0; square < SQUARES; square++) {
                if (trial.isOpen(square)) {
                    int owed = dutyAt(person, square);
                    if (best == NONE || owed < least) {
                        best = square;
                        least = owed;
                    }
                }
            }
            return what == 0 ? best : least;
        }

        int bestSacks(Town town, int k, int what) {
            int best = NONE;
            int least = NONE;
            for (int some = 0; some < 1 << town.count; some++) {
                if (Integer.bitCount(some) == k) {
                    int sum = dutiesInSacks(town, some);
                    if (best == NONE || sum < least) {
                        best = some;
                        least = sum;
                    }
                }
            }
            return what == 0 ? best : least;
        }

        int bestBalcony(Town town, int what) {
            trial.copyFrom(town);
            int best = NONE;
            int greatest = 0;
            for (int square = 0; square < SQUARES; square++) {
                trial.balconied = withBit(town.balconied, square, true);
                roll.take(trial);
                if (best == NONE || roll.entered > greatest) {
                    best = square;
                    greatest = roll.entered;
                }
            }
            return what == 0 ? best : greatest;
        }

        int fittingLooks(Town town, int person, Shelf told) {
            trial.copyFrom(town);
            int fitting = 0;
            for (int looks = 0; looks <= MOST_LOOKS; looks++) {
                trial.people[person].looks = looks;
                roll.take(trial);
                if (areDuties(told)) {
                    fitting |= 1 << looks;
                }
            }
            return fitting;
        }

        int whoOwesMost(Town town) {
            roll.take(town);
            int who = 0;
            for (int i = 1; i < town.count; i++) {
                if (roll.duties[i] > roll.duties[who]) {
                    who = i;
                }
            }
            return who;
        }

        int bestWithout(Town town) {
            int best = NONE;
            int least = 0;
            for (int i = 0; i < town.count; i++) {
                int sum = dutiesWithout(town, i);
                if (best == NONE || sum < least) {
                    best = i;
                    least = sum;
                }
            }
            return best;
        }

        int mostSeen(Town town) {
            int best = NONE;
            int most = 0;
            for (int square = 0; square < SQUARES; square++) {
                int seers = seersOf(town, square);
                if (best == NONE || seers > most) {
                    best = square;
                    most = seers;
                }
            }
            return best;
        }

        private static int seersOf(Town town, int square) {
            long view = town.viewFrom(square);
            int seers = 0;
            for (int i = 0; i < town.count; i++) {
                seers += bit(!town.people[i].isOf(BLIND) && hasBit(view, town.people[i].at));
            }
            return seers;
        }

        private int dutyAt(int person, int square) {
            trial.people[person].at = square;
            roll.take(trial);
            return roll.duties[person];
        }

        private int dutiesInSacks(Town town, int some) {
            trial.copyFrom(town);
            for (int i = 0; i < trial.count; i++) {
                if (hasBit(some, i)) {
                    trial.people[i].sacked = true;
                }
            }
            roll.take(trial);
            return roll.dutiesTogether(trial);
        }

        /** In a sack nobody looks at him, and blind he looks at nobody: as if he weren't there. */
        private int dutiesWithout(Town town, int person) {
            trial.copyFrom(town);
            trial.people[person].sacked = true;
            trial.people[person].kind = BLIND;
            roll.take(trial);
            return roll.dutiesTogether(trial);
        }

        private boolean areDuties(Shelf told) {
            for (int i = 0; i < trial.count; i++) {
                if (told.readAt(i) != roll.duties[i]) {
                    return false;
                }
            }
            return true;
        }

        private void weigh(int person) {
            for (int square = 0; square < SQUARES; square++) {
                costs[square] = trial.isOpen(square) ? dutyAt(person, square) * STEPS + 1 : FAR;
            }
        }

        private void measure(int target) {
            Arrays.fill(away, FAR);
            away[target] = 0;
            boolean shortened = true;
            for (int round = 0; round < SQUARES && shortened; round++) {
                shortened = shortenAll();
            }
        }

        private boolean shortenAll() {
            boolean shortened = false;
            for (int square = 0; square < SQUARES; square++) {
                for (int way = 0; way < WAYS; way++) {
                    int next = trial.stepFrom(square, way);
                    if (next != NONE && away[next] + costs[next] < away[square]) {
                        away[square] = away[next] + costs[next];
                        shortened = true;
                    }
                }
            }
            return shortened;
        }

        private int firstOn(int from) {
            int first = NONE;
            for (int way = 0; way < WAYS; way++) {
                int next = trial.stepFrom(from, way);
                if (next != NONE && away[next] + costs[next] == away[from]
                        && (first == NONE || next < first)) {
                    first = next;
                }
            }
            return first;
        }
    }

    /** What people do in a town by told strolls and by draws. */
    private static final class Strolls {
        private final Roll roll = new Roll();

        /** Who has walked pays at once; the first step that can't be, or NONE. */
        int follow(Town town, Shelf told, int n) {
            for (int i = 0; i < n; i++) {
                int step = told.readAt(i);
                int walker = step / 10;
                if (step < 0 || walker >= town.count || !stepped(town.people[walker], town, step % 10)) {
                    return i;
                }
                roll.take(town);
                town.pay(town.people[walker], roll.duties[walker]);
            }
            return NONE;
        }

        void passHour(Town town) {
            town.rain = town.draw(4) == 0;
            for (int i = 0; i < town.count; i++) {
                stepped(town.people[i], town, town.draw(5));
            }
            roll.take(town);
            for (int i = 0; i < town.count; i++) {
                town.pay(town.people[i], roll.duties[i]);
            }
            town.hours++;
        }

        private static boolean stepped(Person who, Town town, int way) {
            int next = town.stepFrom(who.at, way);
            if (next == NONE) {
                return false;
            }
            who.at = next;
            return true;
        }
    }

    /** Reads a text over a town. */
    private static final class Reader {
        private Shelf text;
        private Town town;
        private int place;
        /** Where the latest number began. */
        private int numberAt;
        private int fault = NONE;

        /** How many items; NONE, and the fault, if it can't stand: the town is half told then. */
        int read(Shelf newText, Town newTown) {
            text = newText;
            town = newTown;
            place = 0;
            fault = NONE;
            for (int items = 1; items <= MOST_ELEMENTS; items++) {
                if (!readItem()) {
                    return NONE;
                }
                if (place == text.length) {
                    return items;
                }
                if (!readSign(';')) {
                    return NONE;
                }
            }
            return NONE;
        }

        private boolean readItem() {
            int start = place;
            String word = wordWith(text.readAt(place));
            if (word.isEmpty()) {
                return failAt(start);
            }
            for (int i = 0; i < word.length(); i++) {
                if (!readSign(word.charAt(i))) {
                    return false;
                }
            }
            switch (word.charAt(0)) {
                case 'p': return readPerson(start);
                case 's': return readSack();
                case 'm': return readMite();
                case 'r': return readReach();
                default: return readSquare(word.charAt(0));
            }
        }

        /** No two words begin with the same letter. */
        private static String wordWith(int letter) {
            switch (letter) {
                case 'w': return "wall";
                case 'g': return "gap";
                case 'b': return "balcony";
                case 'p': return "person";
                case 's': return "sack";
                case 'm': return "mite";
                case 'r': return "reach";
                default: return "";
            }
        }

        private boolean readSquare(char word) {
            int square = readNumber(0, SQUARES - 1);
            if (square == NONE) {
                return false;
            }
            if (word == 'b') {
                town.putBalcony(square, true);
            } else if (word == 'w' && town.peopleAt(square) != 0) {
                return failAt(numberAt);
            } else {
                town.putWall(square, word == 'w');
            }
            return true;
        }

        private boolean readPerson(int start) {
            if (!town.hasRoom()) {
                return failAt(start);
            }
            int kind = readNumber(0, KINDS - 1);
            int a = kind == NONE ? NONE : readNumber(0, MOST_A);
            int looks = a == NONE ? NONE : readNumber(0, MOST_LOOKS);
            int shame = looks == NONE ? NONE : readNumber(0, MOST_SHAME);
            int purse = shame == NONE ? NONE : readNumber(0, MOST_PURSE);
            int at = purse == NONE ? NONE : readNumber(0, SQUARES - 1);
            if (at == NONE) {
                return false;
            }
            if (town.isWall(at)) {
                return failAt(numberAt);
            }
            Person who = town.people[town.count];
            who.become(kind, a, looks);
            who.place(shame, purse, at);
            town.count++;
            return true;
        }

        private boolean readSack() {
            int person = readNumber(0, town.count - 1);
            if (person == NONE) {
                return false;
            }
            town.people[person].sacked = true;
            return true;
        }

        private boolean readMite() {
            int mite = readNumber(1, MOST_MITE);
            if (mite == NONE) {
                return false;
            }
            town.mite = mite;
            return true;
        }

        private boolean readReach() {
            int reach = readNumber(1, MOST_REACH);
            if (reach == NONE) {
                return false;
            }
            town.reach = reach;
            return true;
        }

        /** A blank and a number of one or two digits; NONE, and the fault, if it can't stand. */
        private int readNumber(int least, int most) {
            if (!readSign(' ')) {
                return NONE;
            }
            numberAt = place;
            int number = readDigit();
            if (number == NONE) {
                failAt(place);
                return NONE;
            }
            int second = readDigit();
            if (second != NONE) {
                number = number * 10 + second;
            }
            if (number < least || number > most) {
                failAt(numberAt);
                return NONE;
            }
            return number;
        }

        private int readDigit() {
            int sign = text.readAt(place);
            if (sign < '0' || sign > '9') {
                return NONE;
            }
            place++;
            return sign - '0';
        }

        private boolean readSign(int wanted) {
            if (text.readAt(place) != wanted) {
                return failAt(place);
            }
            place++;
            return true;
        }

        private boolean failAt(int where) {
            fault = where;
            return false;
        }
    }

    /** Moves by bodies, and the trace of those that ran. */
    private static final class Actor {
        private final int[] kept = new int[MOST_TRACE];
        private int ran;
        private int number;
        private int kind;
        private int a;

        void rest() {
            ran = 0;
        }

        int perform(Person who, int whoseNumber, int move, int x) {
            ran = 0;
            number = whoseNumber;
            kind = who.kind;
            a = who.a;
            return send(kind, move, x, 0);
        }

        /** Runs the body of a kind, or of the next kind above that has one. */
        private int send(int from, int move, int x, int depth) {
            int owner = from;
            for (int up = 0; up < KINDS && owner != NONE; up++) {
                int body = BODIES[owner * MOVES + move];
                if (body != NONE) {
                    return depth < DEEPEST ? run(body, owner, x, depth + 1) : 0;
                }
                owner = above(owner);
            }
            return 0;
        }

        private int run(int body, int owner, int x, int depth) {
            note(body);
            int higher = above(owner);
            switch (body) {
                case 10: return x + number;
                case 11: return send(kind, LOOKING, x, depth) * 2;
                case 12: return send(kind, WALKING, x, depth) ^ send(kind, LOOKING, x - a, depth);
                case 20: return send(higher, LOOKING, x, depth) + a;
                case 30: return send(higher, WALKING, x, depth) * 3;
                case 40: return send(higher, LOOKING, x + 1, depth);
                case 50: return -send(higher, PAYING, x, depth);
                case 51: return send(higher, LOOKING, x, depth) - number;
                case 60: return send(higher, PAYING, x, depth) ^ 5;
                case 70: return send(higher, LOOKING, x, depth) * 2;
                case 71: return send(higher, WALKING, x - a, depth);
                default: return 0;
            }
        }

        private void note(int body) {
            if (ran < MOST_TRACE) {
                kept[ran] = body;
            }
            ran++;
        }
    }
}
