/**
 * A flat part held to be cut, by pins, pads, clamps and balls: all answers are exact.
 * The words used here (contact, push, wrench, set-up ..) are those of the document.
 */
public final class HeldPart {
    private static final int MOST_CONTACTS = 10;
    private static final int MOST_PUSHES = 3 * MOST_CONTACTS;
    private static final int MOST_NORMALS = MOST_PUSHES + 2;
    private static final int MOST_LOADS = 16;
    private static final int MOST_STEPS = 12;
    private static final int MOST_POINTS = 40;
    private static final int SIDES = 6;
    private static final int SHELVES = 8;
    private static final int LONGEST_ROW = 60;
    private static final int LONGEST_TOLD = 10;

    private static final int FARTHEST = 100;
    private static final int FARTHEST_POINT = 200;
    private static final int WIDEST = 20;
    private static final int STRONGEST_GRIP = 20;
    private static final int STRONGEST_LOAD = 1000;
    private static final int STRONGEST_PULL = 200;
    private static final int LARGEST_MISS = 50;

    private static final int PIN = 0;
    private static final int PAD = 1;
    private static final int CLAMP = 2;
    private static final int BALL = 3;

    private static final int NOTHING = 0;
    private static final int CONTACT = 1;
    private static final int INTS = 3;
    private static final int BYTES = 4;

    /** As a push's number: not a push, but the direction itself. */
    private static final int DIRECTION = -1;

    private static final int NO_SUCH = -1;
    private static final int FULL = -2;
    private static final int NO_MISS = -2;
    private static final int NOT_MET = -2;
    private static final int NONE_THERE = -3;
    private static final int NOT_POSSIBLE = -4;
    private static final int NOTHING_HELD = -11;
    private static final int OTHER_KIND = -12;
    private static final int NO_PLACE = -13;
    private static final int SIZE_BELOW_0 = -14;
    private static final int NO_FAILURE = -15;

    private static final int[] DIRECTION_X = {1, 1, 0, -1, -1, -1, 0, 1};
    private static final int[] DIRECTION_Y = {0, 1, 1, 1, 0, -1, -1, -1};

    private final Pin[] contacts = new Pin[MOST_CONTACTS];
    private int contactCount = 0;

    private final Cone directions = new Cone();
    private final Cone pushes = new Cone();
    /** The clamps' wrenches of directions, added up: what a pull of 1 does. */
    private final long[] clamped = new long[3];
    private boolean pushesAreOld = true;

    private final Cut cut = new Cut();
    private final Misses misses = new Misses();
    private final Plan plan = new Plan();
    private final Path path = new Path();
    private final Shelf[] shelves = new Shelf[SHELVES];

    public HeldPart() {
        for (int d = 0; d < SHELVES; d++) {
            shelves[d] = new Shelf();
        }
    }

    // ---- contacts

    public int contact(int told, int x, int y, int more) {
        if (told < 0 || more < 0 || !isPlace(x, y)) {
            return NO_SUCH;
        }
        int kind = told / 10;
        int direction = told % 10;
        int grip = more / 100;
        int body = more % 100;
        if (kind > BALL || !isDirection(direction) || !isGrip(kind, grip) || body > WIDEST) {
            return NO_SUCH;
        }
        if (contactCount >= MOST_CONTACTS) {
            return FULL;
        }
        Pin c = made(kind, direction, x, y, grip, body);
        c.number = contactCount;
        contacts[contactCount] = c;
        contactCount++;
        pushesAreOld = true;
        return contactCount - 1;
    }

    public int undo() {
        if (contactCount <= 0) {
            return NONE_THERE;
        }
        contactCount--;
        contacts[contactCount] = null;
        pushesAreOld = true;
        return contactCount;
    }

    public int move(int contact, int x, int y) {
        Pin c = contactAt(contact);
        if (c == null || !isPlace(x, y)) {
            return NO_SUCH;
        }
        if (c.x == x && c.y == y) {
            return 0;
        }
        c.x = x;
        c.y = y;
        pushesAreOld = true;
        return 1;
    }

    public int miss(int contact, int n) {
        Pin c = contactAt(contact);
        if (c == null || n < 0 || n > LARGEST_MISS) {
            return NO_SUCH;
        }
        if (!c.places()) {
            return NOT_POSSIBLE;
        }
        int before = c.missed;
        c.missed = n;
        return before;
    }

    public int look(int contact, int what) {
        Pin c = contactAt(contact);
        if (c == null) {
            return NO_SUCH;
        }
        switch (what) {
            case 0: return c.kind();
            case 1: return c.direction;
            case 2: return c.gripped();
            case 3: return c.body;
            case 4: return c.places() ? c.missed : NO_MISS;
            case 5: return c.pushCount();
            default: return NO_SUCH;
        }
    }

    public long wrench(int contact, int push, int part) throws IllegalArgumentException {
        Pin c = contactAt(contact);
        if (c == null || push < DIRECTION || push >= c.pushCount() || part < 0 || part > 2) {
            throw new IllegalArgumentException("no such wrench");
        }
        return part == 0 ? c.pushX(push) : part == 1 ? c.pushY(push) : c.turn(push);
    }

    // ---- placed, held

    public int rank() {
        takePlacing();
        return directions.measured();
    }

    public long hidden(int what) throws IllegalArgumentException, IllegalStateException {
        if (what < 0 || what > 2) {
            throw new IllegalArgumentException("a motion has parts 0, 1, 2");
        }
        takePlacing();
        if (directions.measured() != 2) {
            throw new IllegalStateException("the rank isn't 2");
        }
        directions.reduceNormal();
        return what == 0 ? directions.normalA : what == 1 ? directions.normalB : directions.normalW;
    }

    public int form() {
        return isFormHeld(MOST_CONTACTS) ? 1 : 0;
    }

    public int without(int contact) {
        if (contactAt(contact) == null) {
            return NO_SUCH;
        }
        return isFormHeld(contact) ? 1 : 0;
    }

    public int held(int p, int q, int m, int pull) {
        if (!isLoad(p, q, m) || !isPull(pull)) {
            return NO_SUCH;
        }
        refreshPushes();
        return isHeld(p, q, m, pull) ? 1 : 0;
    }

    public int load(int p, int q, int m) {
        if (!isLoad(p, q, m)) {
            return NO_SUCH;
        }
        return cut.taken(p, q, m) ? cut.size - 1 : FULL;
    }

    public int unload() {
        int gone = cut.size;
        cut.size = 0;
        return gone;
    }

    public int loads(int pull) {
        if (!isPull(pull)) {
            return NO_SUCH;
        }
        refreshPushes();
        int bits = 0;
        for (int i = 0; i < cut.size && i < MOST_LOADS; i++) {
            if (isHeld(cut.p[i], cut.q[i], cut.m[i], pull)) {
                bits |= 1 << i;
            }
        }
        return bits;
    }

    public int pull() {
        refreshPushes();
        int least = cut.leastPull(pushes, clamped);
        return least < 0 ? NOT_POSSIBLE : least;
    }

    // ---- misses at features

    public long worst(int x, int y, int direction, int three, boolean lower)
            throws IllegalArgumentException, IllegalStateException {
        if (!isPlace(x, y) || !isDirection(direction) || three < 0 || three > 999) {
            throw new IllegalArgumentException("no such feature or contacts");
        }
        Pin a = placerAt(three % 10);
        Pin b = placerAt(three / 10 % 10);
        Pin c = placerAt(three / 100);
        if (a == null || b == null || c == null || a == b || a == c || b == c) {
            throw new IllegalArgumentException("not three contacts that place");
        }
        misses.aim(x, y, direction);
        if (!misses.isWeighed(a, b, c)) {
            throw new IllegalStateException("the rank isn't 3");
        }
        long divisor = commonDivisor(misses.above, misses.below);
        if (divisor == 0) {
            return 0;
        }
        return (lower ? misses.below : misses.above) / divisor;
    }

    public int best(int x, int y, int direction) {
        if (!isPlace(x, y) || !isDirection(direction)) {
            return NO_SUCH;
        }
        misses.aim(x, y, direction);
        misses.forgetBest();
        for (int a = 0; a < contactCount; a++) {
            for (int b = a + 1; b < contactCount; b++) {
                for (int c = b + 1; c < contactCount; c++) {
                    tryThree(a, b, c);
                }
            }
        }
        return misses.bestThree < 0 ? NOT_POSSIBLE : misses.bestThree;
    }

    // ---- set-ups

    public int step(int sides, int ahead) {
        if (sides < 1 || sides >= 1 << SIDES || ahead < 0 || ahead >= 1 << plan.size) {
            return NO_SUCH;
        }
        return plan.taken(sides, ahead) ? plan.size - 1 : FULL;
    }

    public int setups() {
        plan.findFewest();
        return plan.fewest;
    }

    public int setup(int i, int what) {
        if (i < 0 || what < 0 || what > 1) {
            return NO_SUCH;
        }
        plan.findFewest();
        if (i >= plan.fewest || i >= MOST_STEPS) {
            return NONE_THERE;
        }
        return what == 0 ? plan.rowSide[i] : plan.rowDone[i];
    }

    public int told(int sides, int n) {
        if (sides < 0 || n < 1 || n > LONGEST_TOLD) {
            return NO_SUCH;
        }
        int rest = sides;
        for (int i = 0; i < n; i++) {
            rest /= SIDES;
        }
        if (rest != 0) {
            return NO_SUCH;
        }
        int taken = plan.takenBy(sides, n);
        return taken < 0 ? NOT_POSSIBLE : taken;
    }

    // ---- the tool

    public int point(int x, int y) {
        if (!isWithin(x, FARTHEST_POINT) || !isWithin(y, FARTHEST_POINT)) {
            return NO_SUCH;
        }
        return path.taken(x, y) ? path.size : FULL;
    }

    public int tool(int radius) {
        if (radius < 0 || radius > WIDEST) {
            return NO_SUCH;
        }
        int gone = path.size;
        path.size = 0;
        path.radius = radius;
        return gone;
    }

    public int meets(int contact) {
        Pin c = contactAt(contact);
        if (c == null) {
            return NO_SUCH;
        }
        if (path.size == 0) {
            return NONE_THERE;
        }
        int line = path.firstLineNear(c);
        return line < 0 ? NOT_MET : line;
    }

    public int met() {
        if (path.size == 0) {
            return NONE_THERE;
        }
        int bits = 0;
        for (int i = 0; i < contactCount; i++) {
            Pin c = contactAt(i);
            if (c != null && path.firstLineNear(c) >= 0) {
                bits |= 1 << i;
            }
        }
        return bits;
    }

    public int count(int what) {
        switch (what) {
            case 0: return contactCount;
            case 1: return cut.size;
            case 2: return plan.size;
            case 3: return path.size;
            case 4: return path.radius;
            default: return NO_SUCH;
        }
    }

    public int keep(int d, int what, int k) {
        Shelf shelf = shelfAt(d);
        if (shelf == null) {
            return NO_SUCH;
        }
        switch (what) {
            case NOTHING:
                shelf.clear();
                return 0;
            case CONTACT:
                Pin c = contactAt(k);
                if (c == null) {
                    return NO_SUCH;
                }
                shelf.take(twinOf(c));
                return 0;
            case INTS:
                shelf.takeInts(wrenchRow());
                return 0;
            case BYTES:
                plan.findFewest();
                shelf.takeBytes(plan.sideRow());
                return 0;
            default:
                return NO_SUCH;
        }
    }

    public int make(int d, int what, int n) {
        Shelf shelf = shelfAt(d);
        if (shelf == null || (what != INTS && what != BYTES) || n > LONGEST_ROW) {
            return NO_SUCH;
        }
        if (n < 0) {
            return SIZE_BELOW_0;
        }
        if (what == INTS) {
            shelf.takeInts(new int[n]);
        } else {
            shelf.takeBytes(new byte[n]);
        }
        return 0;
    }

    public long element(int d, int i) throws IllegalArgumentException, IllegalStateException {
        Shelf shelf = shelfAt(d);
        if (shelf == null) {
            throw new IllegalArgumentException("no such shelf");
        }
        if (!shelf.hasPlaces(i, 1)) {
            throw new IllegalStateException("no such place there");
        }
        return shelf.valueAt(i);
    }

    public int copy(int d, int i, int e, int j, int n) {
        Shelf from = shelfAt(d);
        Shelf to = shelfAt(e);
        if (from == null || to == null) {
            return NO_SUCH;
        }
        if (from.isBare() || to.isBare()) {
            return NOTHING_HELD;
        }
        if (!from.isRowLike(to)) {
            return OTHER_KIND;
        }
        if (!from.hasPlaces(i, n) || !to.hasPlaces(j, n)) {
            return NO_PLACE;
        }
        from.passOn(i, to, j, n);
        return n;
    }

    public int weight(int d) {
        Shelf shelf = shelfAt(d);
        if (shelf == null) {
            return NO_SUCH;
        }
        if (shelf.isBare()) {
            return NOTHING_HELD;
        }
        Pin c = shelf.contact;
        return c == null ? OTHER_KIND : c.weighs();
    }

    public int toss(int d) {
        Shelf shelf = shelfAt(d);
        if (shelf == null) {
            return NO_SUCH;
        }
        if (shelf.isBare()) {
            return NOTHING_HELD;
        }
        Pin c = shelf.contact;
        return c == null ? OTHER_KIND : failureOf(c);
    }

    // ---- what a number may be

    private static boolean isWithin(int n, int most) {
        return n >= -most && n <= most;
    }

    private static boolean isPlace(int x, int y) {
        return isWithin(x, FARTHEST) && isWithin(y, FARTHEST);
    }

    private static boolean isDirection(int direction) {
        return direction >= 0 && direction < DIRECTION_X.length && direction < DIRECTION_Y.length;
    }

    private static boolean isGrip(int kind, int grip) {
        int least = kind == PAD || kind == BALL ? 1 : 0;
        return grip >= least && grip <= STRONGEST_GRIP;
    }

    private static boolean isLoad(int p, int q, int m) {
        return isWithin(p, STRONGEST_LOAD) && isWithin(q, STRONGEST_LOAD) && isWithin(m, STRONGEST_LOAD);
    }

    private static boolean isPull(int pull) {
        return pull >= 0 && pull <= STRONGEST_PULL;
    }

    // ---- contacts and shelves by their numbers

    private Pin contactAt(int i) {
        return i >= 0 && i < contactCount && i < contacts.length ? contacts[i] : null;
    }

    /** A contact that isn't a clamp, or null. */
    private Pin placerAt(int i) {
        Pin c = contactAt(i);
        return c != null && c.places() ? c : null;
    }

    private Shelf shelfAt(int d) {
        return d >= 0 && d < shelves.length ? shelves[d] : null;
    }

    private static Pin made(int kind, int direction, int x, int y, int grip, int body) {
        switch (kind) {
            case PAD: return new Pad(direction, x, y, grip, body);
            case CLAMP: return new Clamp(direction, x, y, body);
            case BALL: return new Ball(direction, x, y, grip, body);
            default: return new Pin(direction, x, y, body);
        }
    }

    /** What lies on a shelf must not change when the contact itself does. */
    private static Pin twinOf(Pin c) {
        Pin twin = made(c.kind(), c.direction, c.x, c.y, c.gripped(), c.body);
        twin.number = c.number;
        twin.missed = c.missed;
        return twin;
    }

    private static int failureOf(Pin c) {
        try {
            c.fail();
        } catch (IllegalStateException e) {
            return c.number;
        }
        return NO_FAILURE;
    }

    private int[] wrenchRow() {
        int[] row = new int[3 * contactCount];
        for (int i = 0; i < contactCount; i++) {
            Pin c = contactAt(i);
            int at = 3 * i;
            if (c != null && at + 2 < row.length) {
                row[at] = c.pushX(DIRECTION);
                row[at + 1] = c.pushY(DIRECTION);
                row[at + 2] = c.turn(DIRECTION);
            }
        }
        return row;
    }

    // ---- cones of wrenches

    private void takePlacing() {
        directions.clear();
        for (int i = 0; i < contactCount; i++) {
            Pin c = placerAt(i);
            if (c != null) {
                directions.add(c, DIRECTION);
            }
        }
    }

    /** The motions that no contact stops are those that bound the cone: none, if the cone is all of space. */
    private boolean isFormHeld(int leftOut) {
        directions.clear();
        for (int i = 0; i < contactCount; i++) {
            Pin c = contactAt(i);
            if (c != null && i != leftOut) {
                directions.add(c, DIRECTION);
            }
        }
        directions.bound();
        return directions.normals == 0;
    }

    private void refreshPushes() {
        if (!pushesAreOld) {
            return;
        }
        pushes.clear();
        clamped[0] = 0;
        clamped[1] = 0;
        clamped[2] = 0;
        for (int i = 0; i < contactCount; i++) {
            Pin c = contactAt(i);
            if (c != null && c.places()) {
                addPushes(c);
            } else if (c != null) {
                clamped[0] += c.pushX(DIRECTION);
                clamped[1] += c.pushY(DIRECTION);
                clamped[2] += c.turn(DIRECTION);
            }
        }
        pushes.bound();
        pushesAreOld = false;
    }

    private void addPushes(Pin c) {
        for (int push = 0; push < c.pushCount(); push++) {
            pushes.add(c, push);
        }
    }

    /** The pushes must bring what undoes the load and the clamps together. */
    private boolean isHeld(long p, long q, long m, long pull) {
        return pushes.contains(-p - pull * clamped[0], -q - pull * clamped[1], -m - pull * clamped[2]);
    }

    private void tryThree(int a, int b, int c) {
        Pin first = placerAt(a);
        Pin second = placerAt(b);
        Pin third = placerAt(c);
        if (first == null || second == null || third == null) {
            return;
        }
        if (misses.isWeighed(first, second, third)) {
            misses.rememberIfBetter(a + 10 * b + 100 * c);
        }
    }

    private static long commonDivisor(long one, long other) {
        long a = Math.abs(one);
        long b = Math.abs(other);
        // Euclid's steps on numbers of 63 bits are fewer than 100.
        for (int i = 0; i < 100 && b != 0; i++) {
            long rest = a % b;
            a = b;
            b = rest;
        }
        return a;
    }

    /** A contact of the first kind, and what all kinds have. */
    private static class Pin {
        final int direction;
        final int directionX;
        final int directionY;
        final int body;
        int number = 0;
        int x;
        int y;
        int missed = 0;

        Pin(int direction, int x, int y, int body) {
            boolean isKnown = isDirection(direction);
            this.direction = direction;
            this.directionX = isKnown ? DIRECTION_X[direction] : 0;
            this.directionY = isKnown ? DIRECTION_Y[direction] : 0;
            this.x = x;
            this.y = y;
            this.body = body;
        }

        int kind() {
            return PIN;
        }

        int gripped() {
            return 0;
        }

        /** Whether the contact helps to place the part. */
        boolean places() {
            return true;
        }

        int pushCount() {
            return 1;
        }

        /** To which side a push leans by the grip: 1 left of the direction, -1 right, 0 neither. */
        int leans(int push) {
            return 0;
        }

        int weighs() {
            return 10 + body;
        }

        void fail() {
        }

        final int pushX(int push) {
            return push < 0 ? directionX : 10 * directionX - leans(push) * gripped() * directionY;
        }

        final int pushY(int push) {
            return push < 0 ? directionY : 10 * directionY + leans(push) * gripped() * directionX;
        }

        /** The third part of a push's wrench. */
        final int turn(int push) {
            return x * pushY(push) - y * pushX(push);
        }
    }

    private static class Pad extends Pin {
        final int grip;

        Pad(int direction, int x, int y, int grip, int body) {
            super(direction, x, y, body);
            this.grip = grip;
        }

        @Override
        int kind() {
            return PAD;
        }

        @Override
        final int gripped() {
            return grip;
        }

        @Override
        int pushCount() {
            return 2;
        }

        @Override
        int leans(int push) {
            return 1 - 2 * push;
        }

        @Override
        int weighs() {
            return 10 + body + grip + 100;
        }

        @Override
        void fail() {
            throw new IllegalStateException("its grip fails");
        }
    }

    private static final class Clamp extends Pin {
        Clamp(int direction, int x, int y, int body) {
            super(direction, x, y, body);
        }

        @Override
        int kind() {
            return CLAMP;
        }

        @Override
        boolean places() {
            return false;
        }

        @Override
        int weighs() {
            return 10 + body + 1000;
        }
    }

    private static final class Ball extends Pad {
        Ball(int direction, int x, int y, int grip, int body) {
            super(direction, x, y, grip, body);
        }

        @Override
        int kind() {
            return BALL;
        }

        @Override
        int pushCount() {
            return 3;
        }

        @Override
        int leans(int push) {
            return 1 - push;
        }

        @Override
        int weighs() {
            return 2 * (10 + body + grip + 100);
        }
    }

    /** All sums of wrenches times numbers 0 or above, and the normals that bound them. */
    private static final class Cone {
        private final long[] p = new long[MOST_PUSHES];
        private final long[] q = new long[MOST_PUSHES];
        private final long[] m = new long[MOST_PUSHES];
        private int size = 0;

        private final long[] boundA = new long[MOST_NORMALS];
        private final long[] boundB = new long[MOST_NORMALS];
        private final long[] boundW = new long[MOST_NORMALS];
        private int normals = 0;

        /** The normal in hand; behind measured() = 2, that of the plane in which all wrenches lie. */
        private long normalA = 0;
        private long normalB = 0;
        private long normalW = 0;

        void clear() {
            size = 0;
            normals = 0;
        }

        void add(Pin c, int push) {
            if (size < MOST_PUSHES) {
                p[size] = c.pushX(push);
                q[size] = c.pushY(push);
                m[size] = c.turn(push);
                size++;
            }
        }

        /** The rank. No wrench is 0, for no direction is. */
        int measured() {
            int rank = size == 0 ? 0 : 1;
            for (int i = 1; i < size && rank == 1; i++) {
                takeCross(p[0], q[0], m[0], i);
                if (normalA != 0 || normalB != 0 || normalW != 0) {
                    rank = 2;
                }
            }
            for (int i = 1; i < size && rank == 2; i++) {
                if (alongNormal(i) != 0) {
                    rank = 3;
                }
            }
            return rank;
        }

        /** Without a common divisor, the first of w, a, b that isn't 0 above 0. */
        void reduceNormal() {
            long divisor = commonDivisor(commonDivisor(normalA, normalB), normalW);
            long lead = normalW != 0 ? normalW : normalA != 0 ? normalA : normalB;
            if (lead < 0) {
                divisor = -divisor;
            }
            if (divisor != 0) {
                normalA /= divisor;
                normalB /= divisor;
                normalW /= divisor;
            }
        }

        /** Finds normals so that a wrench is in the cone just if it is along (0 or above) each of them. */
        void bound() {
            normals = 0;
            switch (measured()) {
                case 0:
                    boundBoth(1, 0, 0);
                    boundBoth(0, 1, 0);
                    boundBoth(0, 0, 1);
                    break;
                case 1:
                    boundLine();
                    break;
                case 2:
                    boundPlane();
                    break;
                default:
                    boundSpace();
                    break;
            }
        }

        boolean contains(long tp, long tq, long tm) {
            for (int k = 0; k < normals; k++) {
                if (along(k, tp, tq, tm) < 0) {
                    return false;
                }
            }
            return true;
        }

        long along(int k, long tp, long tq, long tm) {
            if (k < 0 || k >= normals || k >= MOST_NORMALS) {
                return 0;
            }
            return boundA[k] * tp + boundB[k] * tq + boundW[k] * tm;
        }

        private void boundLine() {
            boundBoth(0, m[0], -q[0]);
            boundBoth(-m[0], 0, p[0]);
            boundBoth(q[0], -p[0], 0);
            normalA = p[0];
            normalB = q[0];
            normalW = m[0];
            boundIfOneSided();
        }

        private void boundPlane() {
            long a = normalA;
            long b = normalB;
            long w = normalW;
            boundBoth(a, b, w);
            for (int i = 0; i < size; i++) {
                takeCross(a, b, w, i);
                boundIfOneSided();
            }
        }

        /** Each side of a cone of rank 3 lies in the plane of two of its wrenches. */
        private void boundSpace() {
            for (int i = 0; i < size; i++) {
                for (int j = i + 1; j < size; j++) {
                    if (isBoundBy(i, j)) {
                        continue;
                    }
                    takeCross(p[i], q[i], m[i], j);
                    if (normalA != 0 || normalB != 0 || normalW != 0) {
                        boundIfOneSided();
                    }
                }
            }
        }

        /** Each normal is kept once, so there are never more than wrenches. */
        private boolean isBoundBy(int i, int j) {
            for (int k = 0; k < normals; k++) {
                if (along(k, p[i], q[i], m[i]) == 0 && along(k, p[j], q[j], m[j]) == 0) {
                    return true;
                }
            }
            return false;
        }

        private void boundIfOneSided() {
            boolean above = false;
            boolean below = false;
            for (int i = 0; i < size && !(above && below); i++) {
                long side = alongNormal(i);
                above |= side > 0;
                below |= side < 0;
            }
            if (!below) {
                boundOnce(normalA, normalB, normalW);
            } else if (!above) {
                boundOnce(-normalA, -normalB, -normalW);
            }
        }

        private void boundBoth(long a, long b, long w) {
            boundOnce(a, b, w);
            boundOnce(-a, -b, -w);
        }

        private void boundOnce(long a, long b, long w) {
            if (normals < MOST_NORMALS) {
                boundA[normals] = a;
                boundB[normals] = b;
                boundW[normals] = w;
                normals++;
            }
        }

        private void takeCross(long a, long b, long w, int i) {
            if (i >= 0 && i < MOST_PUSHES) {
                normalA = b * m[i] - w * q[i];
                normalB = w * p[i] - a * m[i];
                normalW = a * q[i] - b * p[i];
            }
        }

        private long alongNormal(int i) {
            if (i < 0 || i >= MOST_PUSHES) {
                return 0;
            }
            return normalA * p[i] + normalB * q[i] + normalW * m[i];
        }
    }

    /** The loads of a cut. */
    private static final class Cut {
        private final int[] p = new int[MOST_LOADS];
        private final int[] q = new int[MOST_LOADS];
        private final int[] m = new int[MOST_LOADS];
        private int size = 0;

        /** The pulls that are left: from low to high. */
        private long low = 0;
        private long high = 0;

        boolean taken(int loadP, int loadQ, int loadM) {
            if (size >= MOST_LOADS) {
                return false;
            }
            p[size] = loadP;
            q[size] = loadQ;
            m[size] = loadM;
            size++;
            return true;
        }

        /** The least pull with which all loads are held, or -1. */
        int leastPull(Cone pushes, long[] clamped) {
            if (pushes == null || clamped == null || clamped.length < 3) {
                return -1;
            }
            low = 0;
            high = STRONGEST_PULL;
            for (int i = 0; i < size && i < MOST_LOADS; i++) {
                for (int k = 0; k < pushes.normals; k++) {
                    narrow(pushes.along(k, p[i], q[i], m[i]),
                            pushes.along(k, clamped[0], clamped[1], clamped[2]));
                }
            }
            return low <= high ? (int) low : -1;
        }

        /** Keeps the pulls for which load + pull * clamps isn't above 0 along a normal. */
        private void narrow(long load, long clamps) {
            if (clamps > 0) {
                high = Math.min(high, Math.floorDiv(-load, clamps));
            } else if (clamps < 0) {
                low = Math.max(low, -Math.floorDiv(load, clamps));
            } else if (load > 0) {
                high = -1;
            }
        }
    }

    /** How misses of three contacts show at a feature: above / below is the worst. */
    private static final class Misses {
        private final long[] feature = new long[3];
        private final long[] first = new long[3];
        private final long[] second = new long[3];
        private final long[] third = new long[3];
        private long above = 0;
        private long below = 1;
        private long bestAbove = 0;
        private long bestBelow = 1;
        private int bestThree = -1;

        void aim(int x, int y, int direction) {
            if (isDirection(direction)) {
                feature[0] = DIRECTION_X[direction];
                feature[1] = DIRECTION_Y[direction];
                feature[2] = x * feature[1] - y * feature[0];
            }
        }

        void forgetBest() {
            bestThree = -1;
        }

        /** By Cramer's rule; false if the three aren't of rank 3. */
        boolean isWeighed(Pin a, Pin b, Pin c) {
            fill(first, a);
            fill(second, b);
            fill(third, c);
            below = Math.abs(determinant(first, second, third));
            above = Math.abs(determinant(feature, second, third)) * a.missed
                    + Math.abs(determinant(first, feature, third)) * b.missed
                    + Math.abs(determinant(first, second, feature)) * c.missed;
            return below != 0;
        }

        /** Of like ones the first stays: the threes come by their numbers. */
        void rememberIfBetter(int three) {
            if (bestThree < 0 || above * bestBelow < bestAbove * below) {
                bestThree = three;
                bestAbove = above;
                bestBelow = below;
            }
        }

        private static void fill(long[] row, Pin c) {
            if (row.length > 2) {
                row[0] = c.pushX(DIRECTION);
                row[1] = c.pushY(DIRECTION);
                row[2] = c.turn(DIRECTION);
            }
        }

        private static long determinant(long[] a, long[] b, long[] c) {
            if (a.length < 3 || b.length < 3 || c.length < 3) {
                return 0;
            }
            return a[0] * (b[1] * c[2] - b[2] * c[1])
                    + a[1] * (b[2] * c[0] - b[0] * c[2])
                    + a[2] * (b[0] * c[1] - b[1] * c[0]);
        }
    }

    /** The steps of work, and the fewest set-ups in which they are done. */
    private static final class Plan {
        private final int[] sides = new int[MOST_STEPS];
        private final int[] ahead = new int[MOST_STEPS];
        private int size = 0;

        /** By the steps that are done: 1 and the set-ups still to go; 0: never so. */
        private final byte[] togo = new byte[1 << MOST_STEPS];
        private final int[] rowSide = new int[MOST_STEPS];
        private final int[] rowDone = new int[MOST_STEPS];
        private int fewest = 0;
        private boolean isFound = true;

        boolean taken(int stepSides, int stepAhead) {
            if (size >= MOST_STEPS) {
                return false;
            }
            sides[size] = stepSides;
            ahead[size] = stepAhead;
            size++;
            isFound = false;
            return true;
        }

        /** How many set-ups a row of sides takes, or -1. */
        int takenBy(int row, int n) {
            int all = (1 << size) - 1;
            int done = 0;
            int rest = row;
            for (int i = 0; i < n; i++) {
                if (done == all) {
                    return i;
                }
                done = after(done, rest % SIDES);
                rest /= SIDES;
            }
            return done == all ? n : -1;
        }

        void findFewest() {
            if (isFound) {
                return;
            }
            int all = (1 << size) - 1;
            if (all < 0 || all >= togo.length) {
                return;
            }
            markReached(all);
            countToGo(all);
            writeRow(all);
            isFound = true;
        }

        byte[] sideRow() {
            int n = fewest < 0 ? 0 : Math.min(fewest, MOST_STEPS);
            byte[] row = new byte[n];
            for (int i = 0; i < n; i++) {
                row[i] = (byte) rowSide[i];
            }
            return row;
        }

        /** One pass does all that can be done, for what must be ahead of a step has a lower number. */
        private int after(int done, int side) {
            int all = done;
            for (int s = 0; s < size && s < MOST_STEPS; s++) {
                if ((sides[s] >> side & 1) != 0 && (ahead[s] & ~all) == 0) {
                    all |= 1 << s;
                }
            }
            return all;
        }

        /** A set-up only adds steps, so it leads to a higher number. */
        private void markReached(int all) {
            for (int done = 0; done <= all && done < togo.length; done++) {
                togo[done] = 0;
            }
            togo[0] = 1;
            for (int done = 0; done < all && done < togo.length; done++) {
                if (togo[done] == 0) {
                    continue;
                }
                for (int side = 0; side < SIDES; side++) {
                    int next = after(done, side);
                    if (next >= 0 && next < togo.length) {
                        togo[next] = 1;
                    }
                }
            }
        }

        private void countToGo(int all) {
            for (int done = Math.min(all, togo.length) - 1; done >= 0; done--) {
                if (togo[done] != 0) {
                    togo[done] = (byte) (1 + leastBehind(done));
                }
            }
        }

        private int leastBehind(int done) {
            int least = MOST_STEPS + 1;
            for (int side = 0; side < SIDES; side++) {
                int next = after(done, side);
                if (next > done && next < togo.length) {
                    least = Math.min(least, togo[next]);
                }
            }
            return least;
        }

        private void writeRow(int all) {
            int done = 0;
            int n = 0;
            for (int i = 0; i < MOST_STEPS && done != all; i++) {
                int side = firstSideOnward(done);
                int next = after(done, side);
                rowSide[i] = side;
                rowDone[i] = next & ~done;
                done = next;
                n++;
            }
            fewest = n;
        }

        private int firstSideOnward(int done) {
            int least = leastBehind(done);
            for (int side = 0; side < SIDES; side++) {
                int next = after(done, side);
                if (next > done && next < togo.length && togo[next] == least) {
                    return side;
                }
            }
            return 0;
        }
    }

    /** The path of a tool. */
    private static final class Path {
        private final int[] x = new int[MOST_POINTS];
        private final int[] y = new int[MOST_POINTS];
        private int size = 0;
        private int radius = 0;

        boolean taken(int pointX, int pointY) {
            if (size >= MOST_POINTS) {
                return false;
            }
            x[size] = pointX;
            y[size] = pointY;
            size++;
            return true;
        }

        /** The first line by which the tool meets a contact, or -1. */
        int firstLineNear(Pin c) {
            int lines = size == 1 ? 1 : size - 1;
            for (int i = 0; i < lines; i++) {
                if (isNear(i, size == 1 ? i : i + 1, c)) {
                    return i;
                }
            }
            return -1;
        }

        /** Compares squares, so that nothing is rounded. */
        private boolean isNear(int from, int to, Pin c) {
            if (from < 0 || to < 0 || from >= MOST_POINTS || to >= MOST_POINTS) {
                return false;
            }
            long dx = x[to] - x[from];
            long dy = y[to] - y[from];
            long ex = c.x - x[from];
            long ey = c.y - y[from];
            long reach = radius + c.body;
            long length = dx * dx + dy * dy;
            long onward = ex * dx + ey * dy;
            if (onward <= 0) {
                return ex * ex + ey * ey < reach * reach;
            }
            if (onward >= length) {
                return (ex - dx) * (ex - dx) + (ey - dy) * (ey - dy) < reach * reach;
            }
            long aside = ex * dy - ey * dx;
            return aside * aside < reach * reach * length;
        }
    }

    /** Holds nothing, or one of the three. */
    private static final class Shelf {
        private Pin contact = null;
        private int[] ints = null;
        private byte[] bytes = null;

        void clear() {
            contact = null;
            ints = null;
            bytes = null;
        }

        void take(Pin c) {
            clear();
            contact = c;
        }

        void takeInts(int[] row) {
            clear();
            ints = row;
        }

        void takeBytes(byte[] row) {
            clear();
            bytes = row;
        }

        boolean isBare() {
            return contact == null && ints == null && bytes == null;
        }

        boolean isRowLike(Shelf other) {
            return (ints != null && other.ints != null) || (bytes != null && other.bytes != null);
        }

        boolean hasPlaces(int from, int n) {
            int length = ints != null ? ints.length : bytes != null ? bytes.length : 0;
            return from >= 0 && n >= 0 && n <= length && from <= length - n;
        }

        long valueAt(int i) {
            if (!hasPlaces(i, 1)) {
                return 0;
            }
            return ints != null ? ints[i] : bytes != null ? bytes[i] : 0;
        }

        void passOn(int from, Shelf other, int to, int n) {
            if (!hasPlaces(from, n) || !other.hasPlaces(to, n)) {
                return;
            }
            if (ints != null && other.ints != null) {
                System.arraycopy(ints, from, other.ints, to, n);
            } else if (bytes != null && other.bytes != null) {
                System.arraycopy(bytes, from, other.bytes, to, n);
            }
        }
    }
}
