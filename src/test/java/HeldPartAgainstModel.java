import java.math.BigInteger;
import java.util.ArrayList;
import java.util.Arrays;
import java.util.List;
import java.util.Random;

/**
 * Runs of calls on HeldPart beside a plain model that finds the answers in other ways: cones by trying all
 * wrenches one, two and three at a time, the least pull by trying all, set-ups by a search from the front.
 */
public final class HeldPartAgainstModel {
    private static final int[] P = {1, 1, 0, -1, -1, -1, 0, 1};
    private static final int[] Q = {0, 1, 1, 1, 0, -1, -1, -1};
    private static final int RUNS = 4000;
    /** An object is promised 512 calls; no turn of this test makes more than some 60. */
    private static final int MOST_CALLS = 440;

    private static int wrong = 0;
    private static int asked = 0;

    private static void due(int run, String call, Object got, Object want) {
        asked++;
        if (!got.equals(want)) {
            wrong++;
            if (wrong < 40) {
                System.out.println("run " + run + ": " + call + " answered " + got + ", due is " + want);
            }
        }
    }

    private static final class Model {
        final List<int[]> contacts = new ArrayList<>(); // kind, direction, x, y, grip, body, miss
        final List<long[]> loads = new ArrayList<>();
        final List<int[]> steps = new ArrayList<>();
        final List<int[]> points = new ArrayList<>();
        int radius = 0;
        /** Null, {the WEIGHT, what toss answers} of a CONTACT in a Long[], or the ROW itself. */
        final Object[] shelves = new Object[8];

        static Long[] kept(int[] c, int number) {
            boolean grips = c[0] == 1 || c[0] == 3;
            long weight = 10 + c[5] + (grips ? 100 + c[4] : 0) + (c[0] == 2 ? 1000 : 0);
            return new Long[] {c[0] == 3 ? 2 * weight : weight, grips ? number : -15L};
        }

        int[] wrenchRow() {
            int[] row = new int[3 * contacts.size()];
            for (int i = 0; i < row.length; i++) {
                row[i] = (int) direction(contacts.get(i / 3))[i % 3];
            }
            return row;
        }

        static int length(Object row) {
            return row instanceof int[] ints ? ints.length : row instanceof byte[] bytes ? bytes.length : -1;
        }

        static long[] wrench(long p, long q, int[] c) {
            return new long[] {p, q, c[2] * q - c[3] * p};
        }

        static long[] direction(int[] c) {
            return wrench(P[c[1]], Q[c[1]], c);
        }

        static List<long[]> pushes(int[] c) {
            int p = P[c[1]];
            int q = Q[c[1]];
            int g = c[4];
            List<long[]> list = new ArrayList<>();
            if (c[0] == 1 || c[0] == 3) {
                list.add(wrench(10 * p - g * q, 10 * q + g * p, c));
            }
            if (c[0] != 1) {
                list.add(wrench(10 * p, 10 * q, c));
            }
            if (c[0] == 1 || c[0] == 3) {
                list.add(wrench(10 * p + g * q, 10 * q - g * p, c));
            }
            return list;
        }

        List<long[]> placing() {
            List<long[]> list = new ArrayList<>();
            for (int[] c : contacts) {
                if (c[0] != 2) {
                    list.add(direction(c));
                }
            }
            return list;
        }

        int rank() {
            List<long[]> w = placing();
            int rank = w.isEmpty() ? 0 : 1;
            for (long[] a : w) {
                for (long[] b : w) {
                    long[] n = cross(a, b);
                    if (n[0] != 0 || n[1] != 0 || n[2] != 0) {
                        rank = Math.max(rank, 2);
                        for (long[] c : w) {
                            if (dot(n, c) != 0) {
                                return 3;
                            }
                        }
                    }
                }
            }
            return rank;
        }

        /** All of space is spanned just if four wrenches that span it are in the cone. */
        boolean form(int leftOut) {
            List<long[]> w = new ArrayList<>();
            for (int i = 0; i < contacts.size(); i++) {
                if (i != leftOut) {
                    w.add(direction(contacts.get(i)));
                }
            }
            return inCone(w, new long[] {1, 0, 0}) && inCone(w, new long[] {0, 1, 0})
                    && inCone(w, new long[] {0, 0, 1}) && inCone(w, new long[] {-1, -1, -1});
        }

        boolean held(long[] load, int pull) {
            List<long[]> w = new ArrayList<>();
            long[] t = {-load[0], -load[1], -load[2]};
            for (int[] c : contacts) {
                if (c[0] == 2) {
                    long[] d = direction(c);
                    for (int i = 0; i < 3; i++) {
                        t[i] -= pull * d[i];
                    }
                } else {
                    w.addAll(pushes(c));
                }
            }
            return inCone(w, t);
        }

        int loads(int pull) {
            int bits = 0;
            for (int i = 0; i < loads.size(); i++) {
                bits |= held(loads.get(i), pull) ? 1 << i : 0;
            }
            return bits;
        }

        int pull() {
            for (int pull = 0; pull <= 200; pull++) {
                boolean all = true;
                for (int i = 0; i < loads.size() && all; i++) {
                    all = held(loads.get(i), pull);
                }
                if (all) {
                    return pull;
                }
            }
            return -4;
        }

        /** By elimination in fractions; null if the rank isn't 3. */
        BigInteger[] worst(int x, int y, int direction, int[] three) {
            Fraction[][] rows = new Fraction[3][4];
            long[] feature = {P[direction], Q[direction], x * Q[direction] - y * P[direction]};
            for (int r = 0; r < 3; r++) {
                for (int k = 0; k < 3; k++) {
                    rows[r][k] = new Fraction(direction(contacts.get(three[k]))[r]);
                }
                rows[r][3] = new Fraction(feature[r]);
            }
            for (int k = 0; k < 3; k++) {
                int r = k;
                while (r < 3 && rows[r][k].isZero()) {
                    r++;
                }
                if (r == 3) {
                    return null;
                }
                Fraction[] swapped = rows[r];
                rows[r] = rows[k];
                rows[k] = swapped;
                for (int o = 0; o < 3; o++) {
                    if (o != k) {
                        Fraction times = rows[o][k].over(rows[k][k]);
                        for (int i = 0; i < 4; i++) {
                            rows[o][i] = rows[o][i].minus(rows[k][i].times(times));
                        }
                    }
                }
            }
            Fraction sum = new Fraction(0);
            for (int k = 0; k < 3; k++) {
                Fraction c = rows[k][3].over(rows[k][k]).absolute();
                sum = sum.minus(new Fraction(0).minus(c.times(new Fraction(contacts.get(three[k])[6]))));
            }
            return new BigInteger[] {sum.above, sum.below};
        }

        int best(int x, int y, int direction) {
            int best = -4;
            BigInteger[] least = null;
            int n = contacts.size();
            for (int code = 0; code < n * n * n; code++) {
                int[] t = {code / n / n, code / n % n, code % n};
                if (t[0] >= t[1] || t[1] >= t[2] || contacts.get(t[0])[0] == 2 || contacts.get(t[1])[0] == 2
                        || contacts.get(t[2])[0] == 2) {
                    continue;
                }
                BigInteger[] w = worst(x, y, direction, t);
                if (w != null && (least == null
                        || w[0].multiply(least[1]).compareTo(least[0].multiply(w[1])) < 0)) {
                    least = w;
                    best = t[0] + 10 * t[1] + 100 * t[2];
                }
            }
            return best;
        }

        int after(int done, int side) {
            int all = done;
            boolean goesOn = true;
            while (goesOn) {
                goesOn = false;
                for (int s = steps.size() - 1; s >= 0; s--) {
                    int[] step = steps.get(s);
                    if ((all >> s & 1) == 0 && (step[0] >> side & 1) == 1 && (step[1] & all) == step[1]) {
                        all |= 1 << s;
                        goesOn = true;
                        break;
                    }
                }
            }
            return all;
        }

        /** Rows in their order, the shorter ahead; the first that comes to a state is kept. */
        List<Integer> fewest() {
            int all = (1 << steps.size()) - 1;
            List<List<Integer>> rows = new ArrayList<>();
            List<Integer> states = new ArrayList<>();
            rows.add(new ArrayList<>());
            states.add(0);
            boolean[] seen = new boolean[all + 1];
            seen[0] = true;
            for (int at = 0; at < rows.size(); at++) {
                if (states.get(at) == all) {
                    return rows.get(at);
                }
                for (int side = 0; side < 6; side++) {
                    int next = after(states.get(at), side);
                    if (!seen[next]) {
                        seen[next] = true;
                        List<Integer> row = new ArrayList<>(rows.get(at));
                        row.add(side);
                        rows.add(row);
                        states.add(next);
                    }
                }
            }
            return null;
        }

        int told(int sides, int n) {
            int all = (1 << steps.size()) - 1;
            int done = 0;
            int i = 0;
            String digits = new StringBuilder(Integer.toString(sides, 6)).reverse().toString();
            while (done != all && i < n) {
                done = after(done, i < digits.length() ? digits.charAt(i) - '0' : 0);
                i++;
            }
            return done == all ? i : -4;
        }

        int meets(int[] c) {
            for (int i = 0; i < Math.max(1, points.size() - 1); i++) {
                int[] a = points.get(i);
                int[] b = points.get(Math.min(i + 1, points.size() - 1));
                Fraction dx = new Fraction(b[0] - a[0]);
                Fraction dy = new Fraction(b[1] - a[1]);
                Fraction length = dx.times(dx).minus(new Fraction(0).minus(dy.times(dy)));
                Fraction t = new Fraction(0);
                if (!length.isZero()) {
                    long along = (long) (c[2] - a[0]) * (b[0] - a[0]) + (long) (c[3] - a[1]) * (b[1] - a[1]);
                    t = new Fraction(along).over(length);
                    t = t.above.signum() < 0 ? new Fraction(0) : t;
                    t = t.above.compareTo(t.below) > 0 ? new Fraction(1) : t;
                }
                Fraction ex = new Fraction(c[2] - a[0]).minus(t.times(dx));
                Fraction ey = new Fraction(c[3] - a[1]).minus(t.times(dy));
                long reach = radius + c[5];
                Fraction nearer = ex.times(ex).minus(new Fraction(reach * reach)).minus(
                        new Fraction(0).minus(ey.times(ey)));
                if (nearer.above.signum() < 0) {
                    return i;
                }
            }
            return -2;
        }
    }

    private static final class Fraction {
        final BigInteger above;
        final BigInteger below;

        Fraction(long n) {
            this(BigInteger.valueOf(n), BigInteger.ONE);
        }

        Fraction(BigInteger above, BigInteger below) {
            BigInteger g = above.gcd(below);
            BigInteger by = below.signum() < 0 ? g.negate() : g;
            this.above = above.divide(by);
            this.below = below.divide(by);
        }

        boolean isZero() {
            return above.signum() == 0;
        }

        Fraction absolute() {
            return new Fraction(above.abs(), below);
        }

        Fraction times(Fraction o) {
            return new Fraction(above.multiply(o.above), below.multiply(o.below));
        }

        Fraction over(Fraction o) {
            return new Fraction(above.multiply(o.below), below.multiply(o.above));
        }

        Fraction minus(Fraction o) {
            return new Fraction(above.multiply(o.below).subtract(o.above.multiply(below)), below.multiply(o.below));
        }
    }

    private static long[] cross(long[] a, long[] b) {
        return new long[] {a[1] * b[2] - a[2] * b[1], a[2] * b[0] - a[0] * b[2], a[0] * b[1] - a[1] * b[0]};
    }

    private static long dot(long[] a, long[] b) {
        return a[0] * b[0] + a[1] * b[1] + a[2] * b[2];
    }

    private static boolean isZero(long[] a) {
        return a[0] == 0 && a[1] == 0 && a[2] == 0;
    }

    /** What is in a cone is in that of three of its wrenches that are independent, or fewer. */
    private static boolean inCone(List<long[]> w, long[] t) {
        if (isZero(t)) {
            return true;
        }
        for (int i = 0; i < w.size(); i++) {
            long[] a = w.get(i);
            if (isZero(cross(a, t)) && dot(a, t) > 0) {
                return true;
            }
            for (int j = i + 1; j < w.size(); j++) {
                long[] b = w.get(j);
                long[] n = cross(a, b);
                if (isZero(n)) {
                    continue;
                }
                if (dot(n, t) == 0) {
                    if (dot(cross(t, b), n) >= 0 && dot(cross(a, t), n) >= 0) {
                        return true;
                    }
                    continue;
                }
                for (int k = j + 1; k < w.size(); k++) {
                    long[] c = w.get(k);
                    long d = Long.signum(dot(n, c));
                    if (d != 0 && d * dot(n, t) >= 0 && d * dot(cross(t, b), c) >= 0
                            && d * dot(cross(a, t), c) >= 0) {
                        return true;
                    }
                }
            }
        }
        return false;
    }

    private final Random random;
    private final int run;
    private final int reach;
    private final HeldPart x = new HeldPart();
    private final Model m = new Model();

    private HeldPartAgainstModel(int run) {
        this.run = run;
        random = new Random(run);
        int[] reaches = {1, 2, 5, 20, 100};
        reach = reaches[run % reaches.length];
    }

    private int place() {
        return random.nextInt(2 * reach + 1) - reach;
    }

    private int force() {
        int most = random.nextInt(4) == 0 ? 1000 : 20;
        return random.nextInt(4) == 0 ? 0 : random.nextInt(2 * most + 1) - most;
    }

    private void contactCall() {
        int[] grips = {1, 5, 10, 20};
        int kind = random.nextInt(4);
        int grip = kind == 1 || kind == 3 ? grips[random.nextInt(4)] : random.nextInt(21);
        int direction = random.nextInt(run % 3 == 0 ? 3 : 8);
        int body = random.nextInt(21);
        int px = place();
        int py = place();
        int n = m.contacts.size();
        due(run, "contact", x.contact(10 * kind + direction, px, py, 100 * grip + body), n == 10 ? -2 : n);
        if (n < 10) {
            m.contacts.add(new int[] {kind, direction, px, py, grip, body, 0});
        }
    }

    private void undoCall() {
        int n = m.contacts.size();
        due(run, "undo", x.undo(), n == 0 ? -3 : n - 1);
        if (n > 0) {
            m.contacts.remove(n - 1);
        }
    }

    private void moveCall() {
        int k = random.nextInt(10);
        int px = place();
        int py = place();
        if (k >= m.contacts.size()) {
            due(run, "move", x.move(k, px, py), -1);
            return;
        }
        int[] c = m.contacts.get(k);
        due(run, "move", x.move(k, px, py), c[2] == px && c[3] == py ? 0 : 1);
        c[2] = px;
        c[3] = py;
    }

    private void missCall() {
        int k = random.nextInt(10);
        int n = random.nextInt(random.nextBoolean() ? 4 : 51);
        if (k >= m.contacts.size()) {
            due(run, "miss", x.miss(k, n), -1);
            return;
        }
        int[] c = m.contacts.get(k);
        due(run, "miss", x.miss(k, n), c[0] == 2 ? -4 : c[6]);
        c[6] = n;
    }

    private void wrenchCalls() {
        int k = random.nextInt(10);
        if (k >= m.contacts.size()) {
            due(run, "look(" + k + ", 5)", x.look(k, 5), -1);
            return;
        }
        int[] c = m.contacts.get(k);
        List<long[]> pushes = Model.pushes(c);
        due(run, "look(" + k + ", 5)", x.look(k, 5), pushes.size());
        for (int push = -1; push < pushes.size(); push++) {
            long[] w = push < 0 ? Model.direction(c) : pushes.get(push);
            for (int part = 0; part < 3; part++) {
                due(run, "wrench(" + k + ", " + push + ", " + part + ")", x.wrench(k, push, part), w[part]);
            }
        }
    }

    private void placedCalls() {
        int rank = m.rank();
        due(run, "rank", x.rank(), rank);
        long[] motion = new long[3];
        int thrown = 0;
        for (int i = 0; i < 3; i++) {
            try {
                motion[i] = x.hidden(i);
            } catch (IllegalStateException e) {
                thrown++;
            }
        }
        due(run, "hidden throws", thrown, rank == 2 ? 0 : 3);
        if (rank == 2) {
            for (long[] w : m.placing()) {
                due(run, "hidden along a wrench", dot(motion, w), 0L);
            }
            BigInteger a = BigInteger.valueOf(motion[0]);
            due(run, "hidden's divisor",
                    a.gcd(BigInteger.valueOf(motion[1])).gcd(BigInteger.valueOf(motion[2])).longValue(), 1L);
            long first = motion[2] != 0 ? motion[2] : motion[0] != 0 ? motion[0] : motion[1];
            due(run, "hidden's sign", first > 0, true);
        }
    }

    private void formCalls() {
        due(run, "form", x.form(), m.form(-1) ? 1 : 0);
        for (int k = 0; k < m.contacts.size(); k++) {
            due(run, "without(" + k + ")", x.without(k), m.form(k) ? 1 : 0);
        }
    }

    private void heldCall() {
        long[] load = load();
        int pull = random.nextInt(random.nextBoolean() ? 5 : 201);
        due(run, "held(" + Arrays.toString(load) + ", " + pull + ")",
                x.held((int) load[0], (int) load[1], (int) load[2], pull), m.held(load, pull) ? 1 : 0);
    }

    /** Half of them against a sum of pushes, so that a good part lies in the cone or at its edge. */
    private long[] load() {
        long[] load = new long[3];
        if (random.nextBoolean() && !m.contacts.isEmpty()) {
            for (int i = 0; i < 2; i++) {
                List<long[]> pushes = Model.pushes(m.contacts.get(random.nextInt(m.contacts.size())));
                long[] w = pushes.get(random.nextInt(pushes.size()));
                int times = random.nextInt(4);
                for (int k = 0; k < 3; k++) {
                    load[k] -= times * w[k];
                }
            }
        }
        boolean isFine = !isZero(load);
        for (int k = 0; k < 3; k++) {
            isFine &= Math.abs(load[k]) <= 1000;
        }
        return isFine ? load : new long[] {force(), force(), force()};
    }

    private void loadCall() {
        long[] load = load();
        int n = m.loads.size();
        due(run, "load", x.load((int) load[0], (int) load[1], (int) load[2]), n == 16 ? -2 : n);
        if (n < 16) {
            m.loads.add(load);
        }
    }

    private void pullCalls() {
        due(run, "pull", x.pull(), m.pull());
        int pull = random.nextInt(201);
        due(run, "loads(" + pull + ")", x.loads(pull), m.loads(pull));
    }

    private void unloadCall() {
        due(run, "unload", x.unload(), m.loads.size());
        m.loads.clear();
    }

    private void worstCalls() {
        int px = place();
        int py = place();
        int direction = random.nextInt(8);
        int[] three = {random.nextInt(10), random.nextInt(10), random.nextInt(10)};
        int told = three[0] + 10 * three[1] + 100 * three[2];
        boolean isSuch = three[0] != three[1] && three[0] != three[2] && three[1] != three[2];
        for (int t : three) {
            isSuch &= t < m.contacts.size() && m.contacts.get(t)[0] != 2;
        }
        BigInteger[] w = isSuch ? m.worst(px, py, direction, three) : null;
        String want = !isSuch ? "argument" : w == null ? "state" : w[0] + " by " + w[1];
        String got;
        try {
            got = x.worst(px, py, direction, told, false) + " by " + x.worst(px, py, direction, told, true);
        } catch (IllegalArgumentException e) {
            got = "argument";
        } catch (IllegalStateException e) {
            got = "state";
        }
        due(run, "worst(" + told + ")", got, want);
        due(run, "best", x.best(px, py, direction), m.best(px, py, direction));
    }

    private void stepCall() {
        int n = m.steps.size();
        int sides = random.nextInt(3) == 0 ? 1 + random.nextInt(63) : 1 << random.nextInt(6);
        int ahead = random.nextInt(1 << n) & random.nextInt(1 << n);
        due(run, "step", x.step(sides, ahead), n == 12 ? -2 : n);
        if (n < 12) {
            m.steps.add(new int[] {sides, ahead});
        }
    }

    private void setupCalls() {
        List<Integer> row = m.fewest();
        due(run, "setups", x.setups(), row.size());
        int done = 0;
        for (int i = 0; i < row.size(); i++) {
            int next = m.after(done, row.get(i));
            due(run, "setup(" + i + ", 0)", x.setup(i, 0), row.get(i));
            due(run, "setup(" + i + ", 1)", x.setup(i, 1), next & ~done);
            done = next;
        }
        due(run, "setup(end)", x.setup(row.size(), 0), -3);
        due(run, "keep(0, 4, 0)", x.keep(0, 4, 0), 0);
        byte[] kept = new byte[row.size()];
        for (int i = 0; i < row.size(); i++) {
            kept[i] = (byte) (int) row.get(i);
            due(run, "element(0, " + i + ")", x.element(0, i), (long) row.get(i));
        }
        m.shelves[0] = kept;
        int n = 1 + random.nextInt(10);
        int sides = random.nextInt((int) Math.pow(6, n));
        due(run, "told(" + sides + ", " + n + ")", x.told(sides, n), m.told(sides, n));
    }

    private void pointCall() {
        int px = random.nextInt(4) == 0 ? random.nextInt(401) - 200 : place();
        int py = random.nextInt(4) == 0 ? random.nextInt(401) - 200 : place();
        int n = m.points.size();
        due(run, "point", x.point(px, py), n == 40 ? -2 : n + 1);
        if (n < 40) {
            m.points.add(new int[] {px, py});
        }
    }

    private void toolCall() {
        int radius = random.nextInt(21);
        due(run, "tool", x.tool(radius), m.points.size());
        m.radius = radius;
        m.points.clear();
    }

    private void meetCalls() {
        int bits = 0;
        for (int k = 0; k < m.contacts.size(); k++) {
            int line = m.points.isEmpty() ? -3 : m.meets(m.contacts.get(k));
            due(run, "meets(" + k + ")", x.meets(k), line);
            bits |= line >= 0 ? 1 << k : 0;
        }
        due(run, "met", x.met(), m.points.isEmpty() ? -3 : bits);
    }

    private void keepCall() {
        int d = random.nextInt(8);
        int k = random.nextInt(10);
        switch (random.nextInt(9)) {
            case 0:
                due(run, "keep(" + d + ", 0, 0)", x.keep(d, 0, 0), 0);
                m.shelves[d] = null;
                break;
            case 1:
                due(run, "keep(" + d + ", 3, 0)", x.keep(d, 3, 0), 0);
                m.shelves[d] = m.wrenchRow();
                break;
            case 2:
                due(run, "make(" + d + ", 3, " + 2 * k + ")", x.make(d, 3, 2 * k), 0);
                m.shelves[d] = new int[2 * k];
                break;
            case 3:
                due(run, "make(" + d + ", 4, " + k + ")", x.make(d, 4, k), 0);
                m.shelves[d] = new byte[k];
                break;
            default:
                boolean isThere = k < m.contacts.size();
                due(run, "keep(" + d + ", 1, " + k + ")", x.keep(d, 1, k), isThere ? 0 : -1);
                if (isThere) {
                    m.shelves[d] = Model.kept(m.contacts.get(k), k);
                }
                break;
        }
    }

    private void copyCall() {
        int d = random.nextInt(8);
        int e = random.nextInt(8);
        int i = random.nextInt(9) - 1;
        int j = random.nextInt(9) - 1;
        int n = random.nextInt(7) - 1;
        Object from = m.shelves[d];
        Object to = m.shelves[e];
        int want = n;
        if (from == null || to == null) {
            want = -11;
        } else if (from instanceof Long[] || from.getClass() != to.getClass()) {
            want = -12;
        } else if (n < 0 || i < 0 || j < 0 || i + n > Model.length(from) || j + n > Model.length(to)) {
            want = -13;
        } else {
            System.arraycopy(from, i, to, j, n);
        }
        due(run, "copy(" + d + ", " + i + ", " + e + ", " + j + ", " + n + ")", x.copy(d, i, e, j, n), want);
    }

    private void shelfCalls() {
        for (int d = 0; d < 8; d++) {
            Object what = m.shelves[d];
            Long[] contact = what instanceof Long[] kept ? kept : null;
            long refused = what == null ? -11 : -12;
            due(run, "weight(" + d + ")", (long) x.weight(d), contact != null ? contact[0] : (Long) refused);
            due(run, "toss(" + d + ")", (long) x.toss(d), contact != null ? contact[1] : (Long) refused);
        }
        int d = random.nextInt(8);
        Object what = m.shelves[d];
        int i = random.nextInt(12) - 1;
        Object want = "none";
        if (i >= 0 && i < Model.length(what)) {
            want = what instanceof int[] ints ? (long) ints[i] : (long) ((byte[]) what)[i];
        }
        Object got;
        try {
            got = x.element(d, i);
        } catch (IllegalStateException e) {
            got = "none";
        }
        due(run, "element(" + d + ", " + i + ")", got, want);
    }

    private void call() {
        switch (random.nextInt(32)) {
            case 28: case 29: keepCall(); break;
            case 30: copyCall(); break;
            case 31: shelfCalls(); break;
            case 0: case 1: case 2: case 3: case 24: case 25: contactCall(); break;
            case 26: case 27: loadCall(); break;
            case 4: undoCall(); break;
            case 5: moveCall(); break;
            case 6: case 7: missCall(); break;
            case 8: wrenchCalls(); break;
            case 9: placedCalls(); break;
            case 10: formCalls(); break;
            case 11: case 12: heldCall(); break;
            case 13: loadCall(); break;
            case 14: if (random.nextInt(4) == 0) { pullCalls(); } break;
            case 15: if (random.nextInt(3) != 0) { unloadCall(); } break;
            case 16: worstCalls(); break;
            case 17: if (random.nextInt(2) == 0) { stepCall(); } break;
            case 18: setupCalls(); break;
            case 19: case 20: pointCall(); break;
            case 21: if (random.nextInt(4) == 0) { toolCall(); } break;
            default: meetCalls(); break;
        }
    }

    public static void main(String[] args) {
        int runs = args.length > 0 ? Integer.parseInt(args[0]) : RUNS;
        for (int run = 0; run < runs; run++) {
            HeldPartAgainstModel both = new HeldPartAgainstModel(run);
            asked = 0;
            while (asked < MOST_CALLS) {
                both.call();
            }
        }
        System.out.println(wrong == 0 ? "all answers are the model's" : wrong + " answers are not the model's");
        if (wrong != 0) {
            System.exit(1);
        }
    }
}
