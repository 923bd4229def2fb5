/** Each promise by itself: ordinary inputs, the edges that the document names, and wrong inputs. */
public final class HeldPartPromises {
    private static final int NOTHING = 0;
    private static final int ARGUMENT = 1;
    private static final int STATE = 2;
    private static final int LOW = Integer.MIN_VALUE;
    private static final int HIGH = Integer.MAX_VALUE;

    private static int wrong = 0;
    private static int promise = 0;

    private interface Call {
        long answer();
    }

    private static void due(String call, long got, long want) {
        if (got != want) {
            wrong++;
            System.out.println("promise " + promise + ": " + call + " answered " + got + ", due is " + want);
        }
    }

    /** Only the very classes that the document names count, not those below them. */
    private static void throwing(String call, Call c, int want) {
        int got = NOTHING;
        try {
            c.answer();
        } catch (RuntimeException e) {
            got = e.getClass() == IllegalArgumentException.class ? ARGUMENT
                    : e.getClass() == IllegalStateException.class ? STATE : 3;
        }
        due(call + " throws (0 nothing, 1 argument, 2 state, 3 another)", got, want);
    }

    /** All that can be seen of an object. */
    private static String seen(HeldPart x) {
        StringBuilder s = new StringBuilder();
        for (int w = 0; w < 5; w++) {
            s.append(x.count(w)).append(' ');
        }
        for (int c = 0; c < x.count(0); c++) {
            for (int w = 0; w < 6; w++) {
                s.append(x.look(c, w)).append(' ');
            }
            for (int part = 0; part < 3; part++) {
                s.append(x.wrench(c, -1, part)).append(' ');
            }
        }
        s.append(x.loads(0)).append(' ').append(x.loads(200)).append(' ').append(x.pull()).append(' ');
        s.append(x.setups()).append(' ').append(x.met()).append(' ');
        for (int d = 0; d < 8; d++) {
            s.append(x.weight(d)).append(' ').append(x.toss(d)).append(' ');
            for (int i = 0; i < 61; i++) {
                try {
                    s.append(x.element(d, i)).append(' ');
                } catch (IllegalStateException e) {
                    s.append("end ");
                    break;
                }
            }
        }
        return s.toString();
    }

    private static void refused(HeldPart x, String call, Call c, long want) {
        String before = seen(x);
        due(call, c.answer(), want);
        unchanged(call, before, x);
    }

    private static void refusedByThrow(HeldPart x, String call, Call c, int want) {
        String before = seen(x);
        throwing(call, c, want);
        unchanged(call, before, x);
    }

    private static void unchanged(String call, String before, HeldPart x) {
        if (!before.equals(seen(x))) {
            wrong++;
            System.out.println("promise " + promise + ": " + call + " was refused, but changed something");
        }
    }

    /** Pins at three sides of a square, a clamp at the fourth. */
    private static HeldPart square() {
        HeldPart x = new HeldPart();
        x.contact(2, 0, 0, 0);
        x.contact(2, 10, 0, 0);
        x.contact(0, 0, 5, 0);
        x.contact(26, 5, 10, 3);
        x.contact(4, 10, 5, 0);
        return x;
    }

    private static HeldPart full() {
        HeldPart x = new HeldPart();
        for (int i = 0; i < 10; i++) {
            x.contact(i % 8, 10 * i, -10 * i, i);
        }
        return x;
    }

    private static void newObject() {
        HeldPart x = new HeldPart();
        for (int what = 0; what < 5; what++) {
            due("count(" + what + ")", x.count(what), 0);
        }
        due("rank()", x.rank(), 0);
        due("form()", x.form(), 0);
        due("pull()", x.pull(), 0);
        due("loads(0)", x.loads(0), 0);
        due("setups()", x.setups(), 0);
        due("met()", x.met(), -3);
        due("held(0, 0, 0, 200)", x.held(0, 0, 0, 200), 1);
        due("held(0, 0, 1, 200)", x.held(0, 0, 1, 200), 0);
        for (int d = 0; d < 8; d++) {
            due("weight(" + d + ")", x.weight(d), -11);
        }
        HeldPart other = new HeldPart();
        other.contact(0, 0, 0, 0);
        due("count(0) of the first", x.count(0), 0);
    }

    private static void contact() {
        HeldPart x = new HeldPart();
        due("contact(0, -100, 100, 20)", x.contact(0, -100, 100, 20), 0);
        due("contact(7, 100, -100, 2020): any grip of a pin", x.contact(7, 100, -100, 2020), 1);
        due("contact(17, 0, 0, 100)", x.contact(17, 0, 0, 100), 2);
        due("contact(37, 0, 0, 2000)", x.contact(37, 0, 0, 2000), 3);
        due("contact(27, 0, 0, 0)", x.contact(27, 0, 0, 0), 4);
        due("contact(20, 0, 0, 2000): any grip of a clamp", x.contact(20, 0, 0, 2000), 5);
        int[] told = {-1, -10, 8, 9, 18, 19, 38, 39, 40, 47, LOW, HIGH};
        for (int t : told) {
            refused(x, "contact(" + t + ", 0, 0, 100)", () -> x.contact(t, 0, 0, 100), -1);
        }
        int[] far = {-101, 101, LOW, HIGH};
        for (int f : far) {
            refused(x, "contact(0, " + f + ", 0, 0)", () -> x.contact(0, f, 0, 0), -1);
            refused(x, "contact(0, 0, " + f + ", 0)", () -> x.contact(0, 0, f, 0), -1);
        }
        int[] more = {-1, -100, 21, 99, 121, 2021, 2100, 2101, LOW, HIGH};
        for (int m : more) {
            for (int kind = 0; kind < 4; kind++) {
                int t = 10 * kind;
                refused(x, "contact(" + t + ", 0, 0, " + m + ")", () -> x.contact(t, 0, 0, m), -1);
            }
        }
        refused(x, "contact(10, 0, 0, 0): a pad has a grip", () -> x.contact(10, 0, 0, 0), -1);
        refused(x, "contact(30, 0, 0, 20): a ball has a grip", () -> x.contact(30, 0, 0, 20), -1);
        HeldPart f = full();
        due("count(0)", f.count(0), 10);
        refused(f, "contact(0, 0, 0, 0) of ten", () -> f.contact(0, 0, 0, 0), -2);
        refused(f, "contact(8, 0, 0, 0) of ten", () -> f.contact(8, 0, 0, 0), -1);
    }

    private static void undo() {
        HeldPart x = full();
        x.miss(9, 7);
        for (int left = 9; left >= 0; left--) {
            due("undo()", x.undo(), left);
            due("count(0)", x.count(0), left);
            due("look(" + left + ", 0)", x.look(left, 0), -1);
        }
        refused(x, "undo() of none", x::undo, -3);
        due("contact(33, 1, 2, 405)", x.contact(33, 1, 2, 405), 0);
        due("look(0, 4): the new one hasn't the old one's miss", x.look(0, 4), 0);
        HeldPart y = full();
        y.miss(9, 7);
        y.undo();
        y.contact(0, 0, 0, 0);
        due("look(9, 4)", y.look(9, 4), 0);
    }

    private static void move() {
        HeldPart x = square();
        due("move(0, 0, 0)", x.move(0, 0, 0), 0);
        due("move(0, 100, 0)", x.move(0, 100, 0), 1);
        due("move(0, 100, -100)", x.move(0, 100, -100), 1);
        due("move(0, 100, -100) again", x.move(0, 100, -100), 0);
        due("wrench(0, -1, 2)", x.wrench(0, -1, 2), 100);
        due("move(3, -100, 100)", x.move(3, -100, 100), 1);
        due("wrench(3, -1, 2)", x.wrench(3, -1, 2), 100);
        int[] none = {-1, 5, 10, LOW, HIGH};
        for (int c : none) {
            refused(x, "move(" + c + ", 0, 0)", () -> x.move(c, 0, 0), -1);
        }
        int[] far = {-101, 101, LOW, HIGH};
        for (int f : far) {
            refused(x, "move(0, " + f + ", 0)", () -> x.move(0, f, 0), -1);
            refused(x, "move(0, 0, " + f + ")", () -> x.move(0, 0, f), -1);
        }
        HeldPart y = new HeldPart();
        y.contact(2, 0, 0, 0);
        due("held(0, -1, 0, 0)", y.held(0, -1, 0, 0), 1);
        y.move(0, 3, 0);
        due("held(0, -1, 0, 0) behind the move", y.held(0, -1, 0, 0), 0);
        due("held(0, -1, -3, 0) behind the move", y.held(0, -1, -3, 0), 1);
    }

    private static void miss() {
        HeldPart x = square();
        x.contact(12, 3, 3, 500);
        x.contact(32, 3, 3, 500);
        int[] placers = {0, 1, 2, 4, 5, 6};
        for (int c : placers) {
            due("miss(" + c + ", 50)", x.miss(c, 50), 0);
            due("miss(" + c + ", 3)", x.miss(c, 3), 50);
            due("look(" + c + ", 4)", x.look(c, 4), 3);
        }
        refused(x, "miss(3, 1)", () -> x.miss(3, 1), -4);
        refused(x, "miss(3, 51): -1 comes ahead of -4", () -> x.miss(3, 51), -1);
        refused(x, "miss(0, 51)", () -> x.miss(0, 51), -1);
        refused(x, "miss(0, -1)", () -> x.miss(0, -1), -1);
        refused(x, "miss(7, 1)", () -> x.miss(7, 1), -1);
        refused(x, "miss(-1, 1)", () -> x.miss(-1, 1), -1);
        x.move(0, 1, 1);
        due("look(0, 4) behind a move", x.look(0, 4), 3);
    }

    private static void look() {
        HeldPart x = new HeldPart();
        x.contact(5, 1, 2, 1907);
        x.contact(16, 1, 2, 1920);
        x.contact(27, 1, 2, 1900);
        x.contact(31, 1, 2, 101);
        x.miss(0, 9);
        long[][] want = {{0, 5, 0, 7, 9, 1}, {1, 6, 19, 20, 0, 2}, {2, 7, 0, 0, -2, 1}, {3, 1, 1, 1, 0, 3}};
        for (int c = 0; c < 4; c++) {
            for (int what = 0; what < 6; what++) {
                due("look(" + c + ", " + what + ")", x.look(c, what), want[c][what]);
            }
            due("look(" + c + ", -1)", x.look(c, -1), -1);
            due("look(" + c + ", 6)", x.look(c, 6), -1);
        }
        due("look(4, 0)", x.look(4, 0), -1);
        due("look(-1, 0)", x.look(-1, 0), -1);
        due("look(LOW, LOW)", x.look(LOW, LOW), -1);
        due("look(HIGH, HIGH)", x.look(HIGH, HIGH), -1);
    }

    private static void wrench() {
        int[] p = {1, 1, 0, -1, -1, -1, 0, 1};
        int[] q = {0, 1, 1, 1, 0, -1, -1, -1};
        for (int direction = 0; direction < 8; direction++) {
            HeldPart x = new HeldPart();
            for (int kind = 0; kind < 4; kind++) {
                x.contact(10 * kind + direction, 7, -9, 400);
                push(x, kind, -1, p[direction], q[direction]);
            }
            int a = p[direction];
            int b = q[direction];
            push(x, 0, 0, 10 * a, 10 * b);
            push(x, 1, 0, 10 * a - 4 * b, 10 * b + 4 * a);
            push(x, 1, 1, 10 * a + 4 * b, 10 * b - 4 * a);
            push(x, 2, 0, 10 * a, 10 * b);
            push(x, 3, 0, 10 * a - 4 * b, 10 * b + 4 * a);
            push(x, 3, 1, 10 * a, 10 * b);
            push(x, 3, 2, 10 * a + 4 * b, 10 * b - 4 * a);
            int[][] none = {{0, 1, 0}, {1, 2, 0}, {2, 1, 0}, {3, 3, 0}, {0, -2, 0}, {0, 0, -1}, {0, 0, 3},
                {4, 0, 0}, {-1, 0, 0}, {LOW, LOW, LOW}, {HIGH, HIGH, HIGH}};
            for (int[] n : none) {
                throwing("wrench(" + n[0] + ", " + n[1] + ", " + n[2] + ")", () -> x.wrench(n[0], n[1], n[2]), ARGUMENT);
            }
        }
    }

    private static void push(HeldPart x, int contact, int push, int p, int q) {
        long[] want = {p, q, 7 * q + 9 * p};
        for (int part = 0; part < 3; part++) {
            due("wrench(" + contact + ", " + push + ", " + part + ")", x.wrench(contact, push, part), want[part]);
        }
    }

    private static void rank() {
        HeldPart x = new HeldPart();
        x.contact(22, 0, 0, 0);
        x.contact(20, 0, 0, 0);
        x.contact(20, 0, 9, 0);
        due("rank(): clamps don't place", x.rank(), 0);
        x.contact(2, 0, 0, 0);
        due("rank() of one", x.rank(), 1);
        x.contact(6, 0, 50, 0);
        due("rank() on the same line, against", x.rank(), 1);
        x.contact(12, 0, -50, 500);
        due("rank(): a pad counts by its direction", x.rank(), 1);
        x.contact(32, 10, 0, 500);
        due("rank() of two", x.rank(), 2);
        x.contact(6, -10, 0, 0);
        due("rank() of like directions", x.rank(), 2);
        x.contact(1, 0, 0, 0);
        due("rank() of three", x.rank(), 3);
        x.undo();
        due("rank()", x.rank(), 2);
        HeldPart y = new HeldPart();
        for (int direction = 0; direction < 8; direction++) {
            y.contact(direction, 4, 3, 0);
        }
        due("rank() through one place", y.rank(), 2);
    }

    private static void hidden() {
        HeldPart x = new HeldPart();
        throwing("hidden(0) of none", () -> x.hidden(0), STATE);
        throwing("hidden(3) of none", () -> x.hidden(3), ARGUMENT);
        throwing("hidden(-1) of none", () -> x.hidden(-1), ARGUMENT);
        x.contact(0, 4, 3, 0);
        throwing("hidden(0) of one", () -> x.hidden(0), STATE);
        x.contact(2, 4, 3, 0);
        motion(x, 3, -4, 1);
        throwing("hidden(3)", () -> x.hidden(3), ARGUMENT);
        throwing("hidden(LOW)", () -> x.hidden(LOW), ARGUMENT);
        throwing("hidden(HIGH)", () -> x.hidden(HIGH), ARGUMENT);
        x.contact(22, 50, 50, 0);
        motion(x, 3, -4, 1);
        x.contact(2, 5, 3, 0);
        throwing("hidden(0) of three", () -> x.hidden(0), STATE);
        HeldPart y = new HeldPart();
        y.contact(3, 0, 0, 0);
        y.contact(7, 10, 0, 0);
        motion(y, 1, 1, 0);
        HeldPart z = new HeldPart();
        z.contact(4, 0, 0, 0);
        z.contact(0, 0, 7, 0);
        motion(z, 0, 1, 0);
        HeldPart v = new HeldPart();
        v.contact(36, 9, 0, 500);
        v.contact(12, -60, 0, 500);
        motion(v, 1, 0, 0);
    }

    private static void motion(HeldPart x, long a, long b, long w) {
        long[] want = {a, b, w};
        for (int what = 0; what < 3; what++) {
            due("hidden(" + what + ")", x.hidden(what), want[what]);
        }
    }

    private static void form() {
        HeldPart x = square();
        due("form()", x.form(), 1);
        HeldPart tied = new HeldPart();
        tied.contact(0, -5, 0, 0);
        tied.contact(4, 5, 0, 0);
        tied.contact(2, 0, -5, 0);
        tied.contact(6, 0, 5, 0);
        due("form(): it may turn", tied.form(), 0);
        HeldPart turning = new HeldPart();
        turning.contact(0, -5, 1, 0);
        turning.contact(4, 5, -1, 0);
        turning.contact(2, -1, -5, 0);
        turning.contact(6, 1, 5, 0);
        due("form(): it may turn one way", turning.form(), 0);
        turning.contact(12, 1, -5, 100);
        due("form(): it may roll about a corner, touching", turning.form(), 0);
        turning.move(4, 2, -5);
        due("form(): four and one against", turning.form(), 1);
        HeldPart three = new HeldPart();
        three.contact(2, 0, 0, 0);
        three.contact(2, 10, 0, 0);
        three.contact(0, 0, 5, 0);
        due("form() of three", three.form(), 0);
    }

    private static void without() {
        HeldPart x = square();
        for (int c = 0; c < 5; c++) {
            due("without(" + c + ")", x.without(c), 0);
        }
        x.contact(16, 5, 10, 100);
        due("without(3): a pad is there for it", x.without(3), 1);
        due("without(5): the clamp is there", x.without(5), 1);
        due("without(0)", x.without(0), 0);
        due("form()", x.form(), 1);
        due("without(6)", x.without(6), -1);
        due("without(-1)", x.without(-1), -1);
        due("without(LOW)", x.without(LOW), -1);
        due("without(HIGH)", x.without(HIGH), -1);
        due("count(0)", x.count(0), 6);
    }

    private static void held() {
        HeldPart x = square();
        due("held(0, -10, -50, 0)", x.held(0, -10, -50, 0), 1);
        due("held(0, 10, 50, 9)", x.held(0, 10, 50, 9), 0);
        due("held(0, 10, 50, 10): just so", x.held(0, 10, 50, 10), 1);
        due("held(0, 10, 50, 200)", x.held(0, 10, 50, 200), 1);
        due("held(0, -10, 1, 0): turned off", x.held(0, -10, 1, 0), 0);
        due("held(0, -10, 0, 0): at the edge", x.held(0, -10, 0, 0), 1);
        due("held(0, -10, -100, 0): at the other edge", x.held(0, -10, -100, 0), 1);
        due("held(0, -10, -101, 0)", x.held(0, -10, -101, 0), 0);
        due("held(1000, -1000, -10000..)", x.held(1000, -1000, -1000, 0), 0);
        HeldPart one = new HeldPart();
        one.contact(2, 0, 0, 0);
        due("held(0, -1000, 0, 0)", one.held(0, -1000, 0, 0), 1);
        due("held(0, 1, 0, 0): it only pushes", one.held(0, 1, 0, 0), 0);
        due("held(1, -10, 0, 0)", one.held(1, -10, 0, 0), 0);
        due("held(0, -10, 1, 0)", one.held(0, -10, 1, 0), 0);
        HeldPart pad = new HeldPart();
        pad.contact(12, 0, 0, 300);
        due("held(3, -10, 0, 0): the grip's edge", pad.held(3, -10, 0, 0), 1);
        due("held(-3, -10, 0, 0): the other", pad.held(-3, -10, 0, 0), 1);
        due("held(31, -100, 0, 0)", pad.held(31, -100, 0, 0), 0);
        due("held(0, -1, 1, 0)", pad.held(0, -1, 1, 0), 0);
        pad.contact(26, 0, 7, 0);
        due("held(30, 0, 0, 99)", pad.held(30, 0, 0, 99), 0);
        due("held(30, 0, 0, 100)", pad.held(30, 0, 0, 100), 1);
        int[] strong = {-1001, 1001, LOW, HIGH};
        for (int s : strong) {
            due("held(" + s + ", 0, 0, 0)", x.held(s, 0, 0, 0), -1);
            due("held(0, " + s + ", 0, 0)", x.held(0, s, 0, 0), -1);
            due("held(0, 0, " + s + ", 0)", x.held(0, 0, s, 0), -1);
        }
        int[] pulls = {-1, 201, LOW, HIGH};
        for (int pull : pulls) {
            due("held(0, 0, 0, " + pull + ")", x.held(0, 0, 0, pull), -1);
        }
    }

    private static void load() {
        HeldPart x = square();
        for (int i = 0; i < 16; i++) {
            due("load", x.load(i % 2 == 0 ? 1000 : -1000, i % 3 == 0 ? -1000 : 1000, i % 5 == 0 ? 1000 : -1000), i);
            due("count(1)", x.count(1), i + 1);
        }
        refused(x, "load(0, 0, 0) of sixteen", () -> x.load(0, 0, 0), -2);
        refused(x, "load(1001, 0, 0) of sixteen", () -> x.load(1001, 0, 0), -1);
        HeldPart y = new HeldPart();
        int[] strong = {-1001, 1001, LOW, HIGH};
        for (int s : strong) {
            refused(y, "load(" + s + ", 0, 0)", () -> y.load(s, 0, 0), -1);
            refused(y, "load(0, " + s + ", 0)", () -> y.load(0, s, 0), -1);
            refused(y, "load(0, 0, " + s + ")", () -> y.load(0, 0, s), -1);
        }
    }

    private static void unload() {
        HeldPart x = square();
        due("unload() of none", x.unload(), 0);
        x.load(1, 1, 1);
        x.load(2, 2, 2);
        x.load(3, 3, 3);
        due("unload()", x.unload(), 3);
        due("count(1)", x.count(1), 0);
        due("loads(0)", x.loads(0), 0);
        due("load(0, 0, 0)", x.load(0, 0, 0), 0);
        due("loads(0)", x.loads(0), 1);
        due("count(0)", x.count(0), 5);
    }

    private static void loads() {
        HeldPart x = square();
        x.load(0, 10, 50);
        x.load(0, -10, -50);
        x.load(0, 20, 100);
        x.load(0, 0, 1000);
        due("loads(0)", x.loads(0), 2);
        due("loads(9)", x.loads(9), 2);
        due("loads(10)", x.loads(10), 3);
        due("loads(19)", x.loads(19), 3);
        due("loads(20)", x.loads(20), 7);
        due("loads(200)", x.loads(200), 15);
        due("loads(-1)", x.loads(-1), -1);
        due("loads(201)", x.loads(201), -1);
        due("loads(LOW)", x.loads(LOW), -1);
        due("loads(HIGH)", x.loads(HIGH), -1);
        HeldPart y = square();
        for (int i = 0; i < 16; i++) {
            y.load(0, -10, i == 14 ? -101 : -50);
        }
        due("loads(0) of sixteen", y.loads(0), 0xFFFF & ~(1 << 14));
    }

    private static void pull() {
        HeldPart x = square();
        x.load(0, 10, 50);
        due("pull()", x.pull(), 10);
        x.load(0, 200, 1000);
        due("pull(): the most there is", x.pull(), 200);
        x.load(0, 201, 1000);
        due("pull(): more than there is", x.pull(), -4);
        HeldPart y = new HeldPart();
        y.contact(12, 0, 0, 300);
        y.contact(26, 0, 7, 0);
        y.load(10, 0, 0);
        due("pull(): 33 and a third, rounded up", y.pull(), 34);
        y.undo();
        due("pull() without a clamp", y.pull(), -4);
        y.unload();
        due("pull() without loads", y.pull(), 0);
        y.load(0, -1, 0);
        due("pull()", y.pull(), 0);
        HeldPart z = new HeldPart();
        z.contact(2, 0, 0, 0);
        z.contact(22, 0, 0, 0);
        z.load(0, -100, 0);
        due("pull(): a clamp that lifts", z.pull(), 0);
        due("loads(100)", z.loads(100), 1);
        due("loads(101)", z.loads(101), 0);
        z.load(0, 1, 0);
        due("pull(): no pull helps", z.pull(), -4);
        HeldPart bare = new HeldPart();
        bare.load(0, 0, 0);
        due("pull() of no contacts, against nothing", bare.pull(), 0);
        bare.load(1, 0, 0);
        due("pull() of no contacts", bare.pull(), -4);
        HeldPart gap = new HeldPart();
        gap.contact(24, 0, 0, 0);
        gap.load(9, 0, 0);
        due("pull(): just one pull, and no push", gap.pull(), 9);
        due("loads(8)", gap.loads(8), 0);
        due("loads(9)", gap.loads(9), 1);
        due("loads(10)", gap.loads(10), 0);
        gap.load(8, 0, 0);
        due("pull(): two that want another each", gap.pull(), -4);
    }

    private static void worst() {
        HeldPart x = square();
        x.miss(0, 4);
        x.miss(1, 2);
        x.miss(2, 5);
        fraction(x, 20, 0, 2, 210, 8, 1);
        fraction(x, 20, 0, 2, 12, 8, 1);
        fraction(x, 3, 0, 2, 210, 17, 5);
        fraction(x, 3, 0, 6, 102, 17, 5);
        fraction(x, 5, 5, 0, 210, 5, 1);
        fraction(x, -100, 100, 1, 210, 126, 1);
        x.miss(0, 0);
        x.miss(1, 0);
        x.miss(2, 0);
        fraction(x, 20, 0, 2, 210, 0, 1);
        int[] three = {-1, 0, 11, 110, 121, 212, 211, 310, 13, 301, 510, 15, 501, 999, 1000, 1210, LOW, HIGH};
        for (int t : three) {
            throwing("worst(0, 0, 0, " + t + ")", () -> x.worst(0, 0, 0, t, false), ARGUMENT);
            throwing("worst(0, 0, 0, " + t + ") lower", () -> x.worst(0, 0, 0, t, true), ARGUMENT);
        }
        int[] far = {-101, 101, LOW, HIGH};
        for (int f : far) {
            throwing("worst(" + f + ", 0, 0, 210)", () -> x.worst(f, 0, 0, 210, false), ARGUMENT);
            throwing("worst(0, " + f + ", 0, 210)", () -> x.worst(0, f, 0, 210, false), ARGUMENT);
        }
        int[] directions = {-1, 8, LOW, HIGH};
        for (int d : directions) {
            throwing("worst(0, 0, " + d + ", 210)", () -> x.worst(0, 0, d, 210, false), ARGUMENT);
        }
        x.contact(12, 20, 0, 100);
        throwing("worst(0, 0, 0, 510): rank 2", () -> x.worst(0, 0, 0, 510, false), STATE);
        throwing("worst(0, 0, 8, 510): the argument comes first", () -> x.worst(0, 0, 8, 510, false), ARGUMENT);
        throwing("worst(0, 0, 0, 210)", () -> x.worst(0, 0, 0, 210, true), NOTHING);
    }

    private static void fraction(HeldPart x, int fx, int fy, int direction, int three, long above, long below) {
        String call = "worst(" + fx + ", " + fy + ", " + direction + ", " + three;
        long divisor = 1;
        for (long d = 1; d <= below; d++) {
            divisor = above % d == 0 && below % d == 0 ? d : divisor;
        }
        due(call + ", false)", x.worst(fx, fy, direction, three, false), above / divisor);
        due(call + ", true)", x.worst(fx, fy, direction, three, true), below / divisor);
    }

    private static void best() {
        HeldPart x = square();
        due("best(20, 0, 2): all are 0, so the first", x.best(20, 0, 2), 210);
        x.miss(2, 5);
        due("best(20, 0, 0): past contact 2", x.best(20, 0, 0), 410);
        x.miss(4, 5);
        due("best(20, 5, 0): of like ones the least", x.best(20, 5, 0), 210);
        x.miss(4, 4);
        due("best(20, 5, 0)", x.best(20, 5, 0), 410);
        x.contact(32, 20, 0, 100);
        x.miss(0, 3);
        x.miss(1, 3);
        x.miss(2, 0);
        x.miss(5, 0);
        due("best(20, 0, 2): the ball stands there", x.best(20, 0, 2), 520);
        x.move(5, 40, 0);
        due("best(40, 0, 2)", x.best(40, 0, 2), 520);
        due("best(10, 0, 2)", x.best(10, 0, 2), 520);
        due("best(-10, 0, 2)", x.best(-10, 0, 2), 520);
        x.miss(5, 50);
        due("best(10, 0, 2)", x.best(10, 0, 2), 210);
        HeldPart y = new HeldPart();
        due("best(0, 0, 0) of none", y.best(0, 0, 0), -4);
        y.contact(0, 0, 0, 0);
        y.contact(2, 0, 0, 0);
        y.contact(20, 0, 9, 0);
        due("best(0, 0, 0): a clamp doesn't place", y.best(0, 0, 0), -4);
        y.contact(1, 0, 0, 0);
        due("best(0, 0, 0): rank 2", y.best(0, 0, 0), -4);
        y.contact(0, 0, 9, 0);
        due("best(0, 0, 0)", y.best(0, 0, 0), 410);
        int[] far = {-101, 101, LOW, HIGH};
        for (int f : far) {
            due("best(" + f + ", 0, 0)", y.best(f, 0, 0), -1);
            due("best(0, " + f + ", 0)", y.best(0, f, 0), -1);
        }
        due("best(0, 0, 8)", y.best(0, 0, 8), -1);
        due("best(0, 0, -1)", y.best(0, 0, -1), -1);
        due("best(100, -100, 7)", y.best(100, -100, 7), 410);
    }

    private static void step() {
        HeldPart x = new HeldPart();
        refused(x, "step(1, 1): it can't be ahead of itself", () -> x.step(1, 1), -1);
        for (int i = 0; i < 12; i++) {
            int self = 1 << i;
            refused(x, "step(63, " + self + ")", () -> x.step(63, self), -1);
            due("step(63, " + (self - 1) + ")", x.step(63, self - 1), i);
            due("count(2)", x.count(2), i + 1);
        }
        refused(x, "step(1, 0) of twelve", () -> x.step(1, 0), -2);
        refused(x, "step(1, 4095) of twelve", () -> x.step(1, 4095), -2);
        refused(x, "step(1, 4096) of twelve", () -> x.step(1, 4096), -1);
        refused(x, "step(64, 0) of twelve", () -> x.step(64, 0), -1);
        HeldPart y = new HeldPart();
        int[] sides = {0, -1, 64, LOW, HIGH};
        for (int s : sides) {
            refused(y, "step(" + s + ", 0)", () -> y.step(s, 0), -1);
        }
        int[] ahead = {-1, 2, LOW, HIGH};
        for (int a : ahead) {
            refused(y, "step(1, " + a + ")", () -> y.step(1, a), -1);
        }
    }

    private static void setups() {
        HeldPart x = new HeldPart();
        x.step(1, 0);
        due("setups()", x.setups(), 1);
        x.step(32, 0);
        due("setups()", x.setups(), 2);
        x.step(33, 3);
        due("setups()", x.setups(), 2);
        HeldPart chain = new HeldPart();
        for (int i = 0; i < 12; i++) {
            chain.step(1 << i % 6, i == 0 ? 0 : 1 << i - 1);
        }
        due("setups() of a chain", chain.setups(), 12);
        HeldPart all = new HeldPart();
        for (int i = 0; i < 12; i++) {
            all.step(32, (1 << i) - 1);
        }
        due("setups(): all at once, one behind the other", all.setups(), 1);
        HeldPart eager = new HeldPart();
        eager.step(2, 0);
        eager.step(1, 1);
        eager.step(1, 0);
        eager.step(4, 4);
        eager.step(2, 8);
        due("setups()", eager.setups(), 4);
    }

    private static void setup() {
        HeldPart x = new HeldPart();
        due("setup(0, 0) of none", x.setup(0, 0), -3);
        x.step(6, 0);
        x.step(4, 0);
        x.step(3, 1);
        row(x, new int[] {1, 2}, new int[] {5, 2});
        HeldPart y = new HeldPart();
        y.step(48, 0);
        due("setup(0, 0) ahead of any other call", y.setup(0, 0), 4);
        y.step(24, 1);
        row(y, new int[] {4}, new int[] {3});
        y.step(2, 2);
        y.step(4, 0);
        row(y, new int[] {2, 4, 1}, new int[] {8, 3, 4});
        due("setup(-1, 0)", y.setup(-1, 0), -1);
        due("setup(0, -1)", y.setup(0, -1), -1);
        due("setup(0, 2)", y.setup(0, 2), -1);
        due("setup(9, 2): -1 comes ahead of -3", y.setup(9, 2), -1);
        due("setup(3, 1)", y.setup(3, 1), -3);
        due("setup(12, 0)", y.setup(12, 0), -3);
        due("setup(HIGH, 0)", y.setup(HIGH, 0), -3);
        due("setup(LOW, 0)", y.setup(LOW, 0), -1);
    }

    private static void row(HeldPart x, int[] sides, int[] done) {
        due("setups()", x.setups(), sides.length);
        for (int i = 0; i < sides.length; i++) {
            due("setup(" + i + ", 0)", x.setup(i, 0), sides[i]);
            due("setup(" + i + ", 1)", x.setup(i, 1), done[i]);
        }
        due("setup(" + sides.length + ", 0)", x.setup(sides.length, 0), -3);
    }

    private static void told() {
        HeldPart x = new HeldPart();
        due("told(0, 1): all is done at first", x.told(0, 1), 0);
        due("told(6, 1): a digit more", x.told(6, 1), -1);
        x.step(2, 0);
        x.step(32, 1);
        due("told(1 + 30, 2)", x.told(31, 2), 2);
        due("told(1 + 30, 10)", x.told(31, 10), 2);
        due("told(0 + 6 + 180, 3): one in vain", x.told(186, 3), 3);
        due("told(5 + 6, 2): the other way", x.told(11, 2), -4);
        due("told(5 + 6 + 180, 3)", x.told(191, 3), 3);
        due("told(1, 1)", x.told(1, 1), -4);
        due("told(6^10 - 1, 10)", x.told(60466175, 10), -4);
        due("told(6^10, 10)", x.told(60466176, 10), -1);
        due("told(36, 2)", x.told(36, 2), -1);
        due("told(35, 2)", x.told(35, 2), -4);
        due("told(-1, 1)", x.told(-1, 1), -1);
        due("told(0, 0)", x.told(0, 0), -1);
        due("told(0, -1)", x.told(0, -1), -1);
        due("told(0, 11)", x.told(0, 11), -1);
        due("told(HIGH, 10)", x.told(HIGH, 10), -1);
        due("told(LOW, LOW)", x.told(LOW, LOW), -1);
        due("told(0, HIGH)", x.told(0, HIGH), -1);
    }

    private static void point() {
        HeldPart x = new HeldPart();
        int[] far = {-201, 201, LOW, HIGH};
        for (int i = 0; i < 40; i++) {
            due("point", x.point(i % 2 == 0 ? 200 : -200, i % 3 == 0 ? 200 : -200), i + 1);
            due("count(3)", x.count(3), i + 1);
        }
        refused(x, "point(0, 0) of forty", () -> x.point(0, 0), -2);
        refused(x, "point(201, 0) of forty", () -> x.point(201, 0), -1);
        HeldPart y = new HeldPart();
        for (int f : far) {
            refused(y, "point(" + f + ", 0)", () -> y.point(f, 0), -1);
            refused(y, "point(0, " + f + ")", () -> y.point(0, f), -1);
        }
    }

    private static void tool() {
        HeldPart x = square();
        due("tool(20)", x.tool(20), 0);
        due("count(4)", x.count(4), 20);
        x.point(1, 1);
        x.point(2, 2);
        refused(x, "tool(21)", () -> x.tool(21), -1);
        refused(x, "tool(-1)", () -> x.tool(-1), -1);
        refused(x, "tool(LOW)", () -> x.tool(LOW), -1);
        refused(x, "tool(HIGH)", () -> x.tool(HIGH), -1);
        due("tool(0)", x.tool(0), 2);
        due("count(3)", x.count(3), 0);
        due("count(4)", x.count(4), 0);
        due("met()", x.met(), -3);
        due("point(5, 5)", x.point(5, 5), 1);
    }

    private static void meets() {
        HeldPart x = new HeldPart();
        x.contact(0, 0, 0, 3);
        due("meets(0) without a path", x.meets(0), -3);
        due("meets(1): -1 comes ahead of -3", x.meets(1), -1);
        due("meets(-1)", x.meets(-1), -1);
        due("meets(HIGH)", x.meets(HIGH), -1);
        x.tool(2);
        x.point(3, 4);
        due("meets(0): five away isn't nearer than five", x.meets(0), -2);
        x.tool(3);
        x.point(3, 4);
        due("meets(0)", x.meets(0), 0);
        x.tool(2);
        x.point(7, -1);
        x.point(-1, 7);
        due("meets(0): a slope nearer than five", x.meets(0), 0);
        x.tool(2);
        x.point(10, 5);
        x.point(-10, 5);
        x.point(-10, 4);
        x.point(-4, 4);
        x.point(10, 4);
        due("meets(0): the fourth line", x.meets(0), 3);
        x.tool(2);
        x.point(10, 0);
        x.point(5, 0);
        x.point(5, 0);
        due("meets(0): an end five away", x.meets(0), -2);
        x.point(4, 0);
        due("meets(0): an end four away", x.meets(0), 2);
        x.tool(0);
        x.contact(0, 50, 50, 0);
        x.point(0, 0);
        x.point(100, 100);
        due("meets(1): nothing is nearer than 0", x.meets(1), -2);
        due("meets(0)", x.meets(0), 0);
        x.tool(1);
        x.point(49, 50);
        due("meets(1)", x.meets(1), -2);
        x.move(1, 49, 50);
        due("meets(1)", x.meets(1), 0);
        slopes();
    }

    /** A line that passes a disc of 20 and 20 by less than a hundredth, and one that touches it. */
    private static void slopes() {
        HeldPart x = new HeldPart();
        x.contact(0, 0, 0, 20);
        x.tool(20);
        x.point(-200, 200);
        x.point(200, -140);
        due("meets(0): 30 * 400 / 525 away", x.meets(0), 0);
        x.tool(20);
        x.point(50, 0);
        x.point(18, 24);
        due("meets(0): an end 30 away", x.meets(0), 0);
        x.tool(20);
        x.point(64, -48 + 100);
        x.point(-32, 24 + 100);
        due("meets(0): far", x.meets(0), -2);
        x.tool(20);
        x.point(0, 50);
        x.point(200, -100);
        due("meets(0): a line of slope 3 to 4 just 40 away", x.meets(0), -2);
        x.tool(20);
        x.point(0, 50);
        x.point(200, -101);
        due("meets(0): a little nearer", x.meets(0), 0);
    }

    private static void met() {
        HeldPart x = new HeldPart();
        due("met() without a path", x.met(), -3);
        x.point(0, 0);
        due("met() of no contacts", x.met(), 0);
        for (int i = 0; i < 10; i++) {
            x.contact(20 * (i % 2), 10 * i, 5 * (i % 3), 3);
        }
        x.tool(3);
        x.point(-5, 0);
        x.point(100, 0);
        due("met()", x.met(), 0b1011011011);
        x.tool(2);
        due("met()", x.met(), -3);
        x.point(90, 0);
        due("met()", x.met(), 1 << 9);
    }

    private static void count() {
        HeldPart x = square();
        x.load(0, 0, 0);
        x.load(0, 0, 0);
        x.step(1, 0);
        x.step(1, 0);
        x.step(1, 0);
        x.tool(17);
        x.point(0, 0);
        x.point(0, 0);
        x.point(0, 0);
        x.point(0, 0);
        long[] want = {5, 2, 3, 4, 17};
        for (int what = 0; what < 5; what++) {
            due("count(" + what + ")", x.count(what), want[what]);
        }
        due("count(5)", x.count(5), -1);
        due("count(-1)", x.count(-1), -1);
        due("count(LOW)", x.count(LOW), -1);
        due("count(HIGH)", x.count(HIGH), -1);
    }

    private static void keep() {
        HeldPart x = square();
        x.contact(33, -7, 9, 1105);
        due("keep(7, 1, 5)", x.keep(7, 1, 5), 0);
        due("weight(7)", x.weight(7), 2 * (10 + 5 + 11 + 100));
        x.undo();
        x.contact(3, 0, 0, 0);
        due("weight(7): as it was then", x.weight(7), 2 * (10 + 5 + 11 + 100));
        due("keep(7, 3, 99): k is free", x.keep(7, 3, 99), 0);
        int i = 0;
        for (int c = 0; c < 6; c++) {
            for (int part = 0; part < 3; part++) {
                due("element(7, " + i + ")", x.element(7, i), x.wrench(c, -1, part));
                i++;
            }
        }
        throwing("element(7, 18)", () -> x.element(7, 18), STATE);
        x.move(0, 50, 50);
        due("element(7, 2): as it was then", x.element(7, 2), 0);
        x.step(4, 0);
        x.step(2, 1);
        due("keep(0, 4, -5)", x.keep(0, 4, -5), 0);
        due("element(0, 0)", x.element(0, 0), 2);
        due("element(0, 1)", x.element(0, 1), 1);
        throwing("element(0, 2)", () -> x.element(0, 2), STATE);
        x.step(1, 0);
        throwing("element(0, 2): as it was then", () -> x.element(0, 2), STATE);
        int[] shelves = {-1, 8, LOW, HIGH};
        for (int d : shelves) {
            for (int what = 0; what < 5; what++) {
                int w = what;
                refused(x, "keep(" + d + ", " + w + ", 0)", () -> x.keep(d, w, 0), -1);
            }
        }
        int[] whats = {-1, 2, 5, LOW, HIGH};
        for (int what : whats) {
            refused(x, "keep(7, " + what + ", 0)", () -> x.keep(7, what, 0), -1);
        }
        int[] none = {-1, 6, 10, LOW, HIGH};
        for (int k : none) {
            refused(x, "keep(7, 1, " + k + ")", () -> x.keep(7, 1, k), -1);
        }
        x.keep(7, 1, 0);
        throwing("element(7, 0): the row is gone", () -> x.element(7, 0), STATE);
        due("copy(7, 0, 7, 0, 0): the row is gone", x.copy(7, 0, 7, 0, 0), -12);
        x.keep(7, 4, 0);
        due("weight(7): the contact is gone", x.weight(7), -12);
        x.keep(7, 3, 0);
        x.make(6, 4, 1);
        due("copy(6, 0, 7, 0, 0): the bytes are gone", x.copy(6, 0, 7, 0, 0), -12);
        due("keep(7, 0, 99)", x.keep(7, 0, 99), 0);
        due("weight(7)", x.weight(7), -11);
        HeldPart y = new HeldPart();
        due("keep(1, 3, 0) of none", y.keep(1, 3, 0), 0);
        due("weight(1): a row without places", y.weight(1), -12);
        due("keep(2, 4, 0) of none", y.keep(2, 4, 0), 0);
        due("weight(2)", y.weight(2), -12);
        due("copy(1, 0, 2, 0, 0): of two kinds", y.copy(1, 0, 2, 0, 0), -12);
        throwing("element(1, 0)", () -> y.element(1, 0), STATE);
    }

    private static void make() {
        HeldPart x = square();
        for (int what = 3; what <= 4; what++) {
            due("make(0, " + what + ", 60)", x.make(0, what, 60), 0);
            due("element(0, 0)", x.element(0, 0), 0);
            due("element(0, 59)", x.element(0, 59), 0);
            throwing("element(0, 60)", () -> x.element(0, 60), STATE);
            due("make(0, " + what + ", 0)", x.make(0, what, 0), 0);
            throwing("element(0, 0)", () -> x.element(0, 0), STATE);
            due("weight(0)", x.weight(0), -12);
            int w = what;
            refused(x, "make(0, w, 61)", () -> x.make(0, w, 61), -1);
            refused(x, "make(0, w, HIGH)", () -> x.make(0, w, HIGH), -1);
            refused(x, "make(0, w, -1)", () -> x.make(0, w, -1), -14);
            refused(x, "make(0, w, LOW)", () -> x.make(0, w, LOW), -14);
            refused(x, "make(8, w, -1)", () -> x.make(8, w, -1), -1);
            refused(x, "make(-1, w, -1)", () -> x.make(-1, w, -1), -1);
            refused(x, "make(8, w, 1)", () -> x.make(8, w, 1), -1);
        }
        int[] whats = {0, 1, 2, 5, -1, LOW, HIGH};
        for (int what : whats) {
            refused(x, "make(0, " + what + ", 1)", () -> x.make(0, what, 1), -1);
            refused(x, "make(0, " + what + ", -1)", () -> x.make(0, what, -1), -1);
        }
        x.keep(3, 3, 0);
        x.make(3, 3, 2);
        due("element(3, 0): a new row", x.element(3, 0), 0);
    }

    private static void element() {
        HeldPart x = square();
        int[] shelves = {-1, 8, LOW, HIGH};
        for (int d : shelves) {
            throwing("element(" + d + ", 0)", () -> x.element(d, 0), ARGUMENT);
        }
        throwing("element(0, 0): nothing is held", () -> x.element(0, 0), STATE);
        x.keep(0, 1, 0);
        throwing("element(0, 0): a contact", () -> x.element(0, 0), STATE);
        x.keep(0, 3, 0);
        due("element(0, 1)", x.element(0, 1), 1);
        due("element(0, 5)", x.element(0, 5), 10);
        due("element(0, 14)", x.element(0, 14), 5);
        int[] places = {-1, 15, LOW, HIGH};
        for (int i : places) {
            refusedByThrow(x, "element(0, " + i + ")", () -> x.element(0, i), STATE);
        }
    }

    private static void copy() {
        HeldPart x = square();
        x.keep(0, 3, 0);
        x.make(1, 3, 4);
        due("copy(0, 2, 1, 1, 3)", x.copy(0, 2, 1, 1, 3), 3);
        long[] want = {0, 0, 0, 1};
        for (int i = 0; i < 4; i++) {
            due("element(1, " + i + ")", x.element(1, i), want[i]);
        }
        due("copy(0, 3, 0, 4, 11): onto itself, onward", x.copy(0, 3, 0, 4, 11), 11);
        long[] onward = {0, 1, 0, 0, 0, 1, 10, 1, 0, -5, 0, -1, -5, -1, 0};
        for (int i = 0; i < 15; i++) {
            due("element(0, " + i + ") behind the onward copy", x.element(0, i), onward[i]);
        }
        due("copy(0, 6, 0, 5, 9): onto itself, back", x.copy(0, 6, 0, 5, 9), 9);
        long[] back = {0, 1, 0, 0, 0, 10, 1, 0, -5, 0, -1, -5, -1, 0, 0};
        for (int i = 0; i < 15; i++) {
            due("element(0, " + i + ") behind the copy back", x.element(0, i), back[i]);
        }
        due("copy(0, 15, 1, 4, 0): nothing, at the ends", x.copy(0, 15, 1, 4, 0), 0);
        int[][] places = {{-1, 0, 0}, {0, -1, 0}, {0, 0, -1}, {0, 0, 5}, {0, 1, 4}, {13, 0, 3}, {16, 0, 0},
            {0, 5, 0}, {HIGH, 0, 1}, {0, HIGH, 1}, {1, 1, HIGH}, {HIGH, HIGH, HIGH}, {LOW, LOW, LOW}};
        for (int[] p : places) {
            refused(x, "copy(0, " + p[0] + ", 1, " + p[1] + ", " + p[2] + ")",
                    () -> x.copy(0, p[0], 1, p[1], p[2]), -13);
        }
        x.keep(2, 1, 0);
        x.make(3, 4, 4);
        x.step(32, 0);
        x.keep(5, 4, 0);
        refused(x, "copy(0, 0, 2, 0, 1): a contact", () -> x.copy(0, 0, 2, 0, 1), -12);
        refused(x, "copy(2, 0, 0, 0, 1): a contact", () -> x.copy(2, 0, 0, 0, 1), -12);
        refused(x, "copy(2, 0, 2, 0, 0): two contacts", () -> x.copy(2, 0, 2, 0, 0), -12);
        refused(x, "copy(0, 0, 3, 0, -1): of two kinds", () -> x.copy(0, 0, 3, 0, -1), -12);
        refused(x, "copy(3, 0, 0, 0, 1): of two kinds", () -> x.copy(3, 0, 0, 0, 1), -12);
        refused(x, "copy(4, 0, 2, 0, 1): nothing comes ahead of kind", () -> x.copy(4, 0, 2, 0, 1), -11);
        refused(x, "copy(2, 0, 4, 0, -1)", () -> x.copy(2, 0, 4, 0, -1), -11);
        refused(x, "copy(4, 0, 4, 0, 0)", () -> x.copy(4, 0, 4, 0, 0), -11);
        refused(x, "copy(8, 0, 4, 0, 0)", () -> x.copy(8, 0, 4, 0, 0), -1);
        refused(x, "copy(4, 0, -1, 0, 0)", () -> x.copy(4, 0, -1, 0, 0), -1);
        refused(x, "copy(LOW, 0, HIGH, 0, 0)", () -> x.copy(LOW, 0, HIGH, 0, 0), -1);
        due("copy(5, 0, 3, 3, 1): bytes", x.copy(5, 0, 3, 3, 1), 1);
        due("element(3, 3)", x.element(3, 3), 5);
        due("copy(3, 0, 3, 0, 4): where they are", x.copy(3, 0, 3, 0, 4), 4);
        due("element(3, 3)", x.element(3, 3), 5);
    }

    private static void weight() {
        HeldPart x = new HeldPart();
        x.contact(0, 0, 0, 2020);
        x.contact(10, 0, 0, 2020);
        x.contact(20, 0, 0, 2020);
        x.contact(30, 0, 0, 2020);
        x.contact(0, 0, 0, 0);
        x.contact(10, 0, 0, 100);
        x.contact(20, 0, 0, 0);
        x.contact(30, 0, 0, 100);
        long[] want = {30, 150, 1030, 300, 10, 111, 1010, 222};
        for (int d = 0; d < 8; d++) {
            due("weight(" + d + ") of nothing", x.weight(d), -11);
            x.keep(d, 1, d);
            due("weight(" + d + ")", x.weight(d), want[d]);
        }
        x.make(0, 3, 1);
        due("weight(0) of ints", x.weight(0), -12);
        x.make(0, 4, 1);
        due("weight(0) of bytes", x.weight(0), -12);
        due("weight(8)", x.weight(8), -1);
        due("weight(-1)", x.weight(-1), -1);
        due("weight(LOW)", x.weight(LOW), -1);
        due("weight(HIGH)", x.weight(HIGH), -1);
    }

    private static void toss() {
        HeldPart x = new HeldPart();
        int[] kinds = {3, 2, 1, 0, 1, 3, 0, 2};
        long[] want = {0, -15, 2, -15, 4, 5, -15, -15};
        for (int d = 0; d < 8; d++) {
            due("toss(" + d + ") of nothing", x.toss(d), -11);
            x.contact(10 * kinds[d], 0, 0, 500);
            x.keep(d, 1, d);
            due("toss(" + d + ")", x.toss(d), want[d]);
        }
        due("toss(5): it is still there", x.toss(5), 5);
        due("weight(5): it is still there", x.weight(5), 230);
        x.make(0, 3, 1);
        due("toss(0) of ints", x.toss(0), -12);
        x.make(0, 4, 1);
        due("toss(0) of bytes", x.toss(0), -12);
        due("toss(8)", x.toss(8), -1);
        due("toss(-1)", x.toss(-1), -1);
        due("toss(LOW)", x.toss(LOW), -1);
        due("toss(HIGH)", x.toss(HIGH), -1);
        tossOfEachNumber();
        tossBehindKeep();
    }

    private static void tossOfEachNumber() {
        for (int kind = 1; kind <= 3; kind += 2) {
            HeldPart x = new HeldPart();
            for (int k = 0; k < 10; k++) {
                x.contact(10 * kind + k % 8, k, -k, 100 * (k + 1) + k);
            }
            for (int k = 9; k >= 0; k--) {
                int d = (k + 3) % 8;
                x.keep(d, 1, k);
                due("toss of CONTACT " + k + ", KIND " + kind + ", on SHELF " + d, x.toss(d), k);
            }
        }
    }

    /** The CONTACT lies there as it was kept, whatever becomes of the CONTACTS later. */
    private static void tossBehindKeep() {
        HeldPart x = new HeldPart();
        x.contact(0, 5, 5, 0);
        x.contact(24, 5, 5, 0);
        x.contact(33, 5, 5, 400);
        x.contact(16, 5, 5, 400);
        x.contact(10, 5, 5, 400);
        x.keep(0, 1, 2);
        x.keep(1, 1, 3);
        x.keep(2, 1, 4);
        x.keep(3, 1, 4);
        x.move(2, -50, 7);
        x.miss(3, 9);
        due("toss(0), moved behind keep", x.toss(0), 2);
        due("toss(1), with a MISS behind keep", x.toss(1), 3);
        x.undo();
        x.undo();
        x.undo();
        due("toss(0), gone by undo", x.toss(0), 2);
        due("toss(1), gone by undo", x.toss(1), 3);
        due("toss(2), gone by undo", x.toss(2), 4);
        x.contact(0, 1, 1, 0);
        due("toss(0), a PIN has its number now", x.toss(0), 2);
        x.contact(30, 1, 1, 100);
        x.keep(4, 1, 3);
        due("toss(4), a BALL that came behind undo", x.toss(4), 3);
        x.keep(3, 1, 3);
        due("toss(3), another CONTACT lies there now", x.toss(3), 3);
        due("toss(2), as it was", x.toss(2), 4);
        x.undo();
        x.undo();
        x.undo();
        x.undo();
        due("count(0)", x.count(0), 0);
        due("toss(0), no CONTACTS at all", x.toss(0), 2);
        due("toss(3), no CONTACTS at all", x.toss(3), 3);
        x.contact(11, 1, 1, 100);
        x.keep(3, 1, 0);
        due("toss(3), a PAD of number 0", x.toss(3), 0);
        x.contact(10, 1, 1, 100);
        x.keep(3, 1, 1);
        x.move(1, 2, 2);
        x.keep(5, 1, 1);
        due("toss(5), moved ahead of keep", x.toss(5), 1);
        x.keep(3, 0, 0);
        due("toss(3), nothing lies there", x.toss(3), -11);
    }

    public static void main(String[] args) {
        Runnable[] promises = {HeldPartPromises::newObject, HeldPartPromises::contact, HeldPartPromises::undo,
            HeldPartPromises::move, HeldPartPromises::miss, HeldPartPromises::look, HeldPartPromises::wrench,
            HeldPartPromises::rank, HeldPartPromises::hidden, HeldPartPromises::form, HeldPartPromises::without,
            HeldPartPromises::held, HeldPartPromises::load, HeldPartPromises::unload, HeldPartPromises::loads,
            HeldPartPromises::pull, HeldPartPromises::worst, HeldPartPromises::best, HeldPartPromises::step,
            HeldPartPromises::setups, HeldPartPromises::setup, HeldPartPromises::told, HeldPartPromises::point,
            HeldPartPromises::tool, HeldPartPromises::meets, HeldPartPromises::met, HeldPartPromises::count,
            HeldPartPromises::keep, HeldPartPromises::make, HeldPartPromises::element, HeldPartPromises::copy,
            HeldPartPromises::weight, HeldPartPromises::toss};
        for (Runnable p : promises) {
            promise++;
            p.run();
        }
        System.out.println(wrong == 0 ? "all " + promise + " promises hold" : wrong + " answers are not as due");
        if (wrong != 0) {
            System.exit(1);
        }
    }
}
