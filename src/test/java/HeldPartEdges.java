import java.util.ArrayList;
import java.util.Arrays;
import java.util.List;

/**
 * Each sentence of the document that names a boundary case, by itself and with its words: the last value that is
 * allowed and the first that isn't, nothing there yet and everything full, which refusal is answered where several
 * are due, and that a refused call leaves every later answer as it was.
 */
public final class HeldPartEdges {
    private static final int LOW = Integer.MIN_VALUE;
    private static final int HIGH = Integer.MAX_VALUE;
    /** Stand for an answer where a call throws; no answer of the class is so large. */
    private static final long ARGUMENT = Long.MAX_VALUE;
    private static final long STATE = Long.MAX_VALUE - 1;
    private static final long ANOTHER = Long.MAX_VALUE - 2;
    /** The document promises so many calls, so no object is asked more often. */
    private static final int MOST_CALLS = 512;

    private static int wrong = 0;
    private static int sentences = 0;
    private static String sentence = "";

    private interface Call {
        long on(HeldPart x);
    }

    private interface Scene {
        HeldPart built();
    }

    // ---- how a sentence is tested

    private static void says(String words) {
        sentences++;
        sentence = words;
    }

    private static void tell(String what) {
        wrong++;
        if (wrong < 60) {
            System.out.println("\"" + sentence + "\": " + what);
        }
    }

    private static String shown(long answer) {
        return answer == ARGUMENT ? "IllegalArgumentException" : answer == STATE ? "IllegalStateException"
                : answer == ANOTHER ? "another throwable" : Long.toString(answer);
    }

    /** Only the very classes that the document names count, not those below them. */
    private static long answer(HeldPart x, Call call) {
        try {
            return call.on(x);
        } catch (Throwable e) {
            return e.getClass() == IllegalArgumentException.class ? ARGUMENT
                    : e.getClass() == IllegalStateException.class ? STATE : ANOTHER;
        }
    }

    private static void due(HeldPart x, String text, Call call, long want) {
        long got = answer(x, call);
        if (got != want) {
            tell(text + " answered " + shown(got) + ", due is " + shown(want));
        }
    }

    /** The call answers so in the scene, twice, and no later answer tells that there was a call. */
    private static void idle(Scene scene, String text, Call call, long want) {
        HeldPart x = scene.built();
        due(x, text, call, want);
        due(x, text + " again", call, want);
        List<Long> without = later(scene.built());
        List<Long> with = later(x);
        for (int i = 0; i < without.size(); i++) {
            if (i >= with.size() || !with.get(i).equals(without.get(i))) {
                tell(text + " changed later answer " + i);
                return;
            }
        }
    }

    private static void idleAnywhere(String text, Call call, long want) {
        idle(HeldPart::new, text + " of a new object", call, want);
        idle(HeldPartEdges::some, text + " of some", call, want);
        idle(HeldPartEdges::full, text + " of a full object", call, want);
    }

    /** Asks all that can be asked, and then changes all that can be changed. */
    private static List<Long> later(HeldPart x) {
        List<Long> seen = new ArrayList<>();
        laterContacts(x, seen);
        laterHolding(x, seen);
        laterWork(x, seen);
        laterShelves(x, seen);
        laterChanges(x, seen);
        if (seen.size() > MOST_CALLS - 100) {
            tell("the test asks too often: " + seen.size());
        }
        return seen;
    }

    private static void see(HeldPart x, List<Long> seen, Call call) {
        long got = answer(x, call);
        if (got == ANOTHER) {
            tell("a later call throws what the document doesn't name");
        }
        seen.add(got);
    }

    private static void laterContacts(HeldPart x, List<Long> seen) {
        for (int what = 0; what < 5; what++) {
            int w = what;
            see(x, seen, y -> y.count(w));
        }
        for (int contact = 0; contact < 10; contact++) {
            int c = contact;
            for (int what = 0; what < 6; what++) {
                int w = what;
                see(x, seen, y -> y.look(c, w));
            }
            see(x, seen, y -> y.wrench(c, -1, 2));
            see(x, seen, y -> y.wrench(c, 0, 0));
            see(x, seen, y -> y.wrench(c, 0, 2));
        }
    }

    private static void laterHolding(HeldPart x, List<Long> seen) {
        see(x, seen, HeldPart::rank);
        for (int what = 0; what < 3; what++) {
            int w = what;
            see(x, seen, y -> y.hidden(w));
        }
        see(x, seen, HeldPart::form);
        for (int contact = 0; contact < 10; contact += 3) {
            int c = contact;
            see(x, seen, y -> y.without(c));
        }
        see(x, seen, y -> y.held(0, -10, -50, 0));
        see(x, seen, y -> y.held(3, 5, 25, 7));
        see(x, seen, y -> y.loads(0));
        see(x, seen, y -> y.loads(7));
        see(x, seen, y -> y.loads(200));
        see(x, seen, HeldPart::pull);
        see(x, seen, y -> y.worst(3, -7, 1, 210, false));
        see(x, seen, y -> y.worst(3, -7, 1, 210, true));
        see(x, seen, y -> y.best(3, -7, 1));
        see(x, seen, y -> y.best(0, 40, 6));
    }

    private static void laterWork(HeldPart x, List<Long> seen) {
        see(x, seen, HeldPart::setups);
        for (int i = 0; i < 13; i++) {
            int at = i;
            see(x, seen, y -> y.setup(at, 0));
            see(x, seen, y -> y.setup(at, 1));
        }
        see(x, seen, y -> y.told(5 * 6 + 1, 10));
        see(x, seen, HeldPart::met);
        for (int contact = 0; contact < 10; contact++) {
            int c = contact;
            see(x, seen, y -> y.meets(c));
        }
    }

    private static void laterShelves(HeldPart x, List<Long> seen) {
        for (int shelf = 0; shelf < 8; shelf++) {
            int d = shelf;
            see(x, seen, y -> y.weight(d));
            see(x, seen, y -> y.toss(d));
            for (int i = 0; i < 61; i++) {
                int at = i;
                see(x, seen, y -> y.element(d, at));
                if (seen.get(seen.size() - 1) == STATE) {
                    break;
                }
            }
        }
    }

    private static void laterChanges(HeldPart x, List<Long> seen) {
        see(x, seen, HeldPart::undo);
        see(x, seen, y -> y.contact(31, 3, -4, 706));
        see(x, seen, y -> y.miss(0, 9));
        see(x, seen, y -> y.move(0, 0, 0));
        see(x, seen, y -> y.load(1, 2, 3));
        see(x, seen, y -> y.step(9, 0));
        see(x, seen, y -> y.point(7, 7));
        see(x, seen, y -> y.copy(2, 1, 4, 2, 3));
        see(x, seen, y -> y.copy(3, 0, 5, 1, 1));
        see(x, seen, y -> y.keep(7, 3, 0));
        see(x, seen, y -> y.element(7, 2));
        see(x, seen, y -> y.element(4, 3));
        see(x, seen, y -> y.element(5, 1));
        see(x, seen, HeldPart::pull);
        see(x, seen, HeldPart::setups);
        see(x, seen, HeldPart::met);
        see(x, seen, HeldPart::unload);
        see(x, seen, y -> y.tool(0));
        see(x, seen, HeldPart::rank);
        see(x, seen, y -> y.count(0));
    }

    // ---- the scenes

    private static HeldPart some() {
        HeldPart x = new HeldPart();
        x.contact(2, 0, 0, 0);
        x.contact(12, 10, 0, 305);
        x.contact(0, 0, 5, 1);
        x.contact(26, 5, 10, 3);
        x.contact(34, 10, 5, 704);
        x.miss(0, 4);
        x.miss(1, 2);
        x.miss(4, 7);
        x.load(0, 4, 20);
        x.load(-3, 1, 5);
        x.load(0, -10, -50);
        x.step(1, 0);
        x.step(6, 1);
        x.step(32, 0);
        x.tool(2);
        x.point(-20, 0);
        x.point(30, 0);
        x.point(30, 40);
        x.keep(0, 1, 3);
        x.keep(1, 1, 4);
        x.keep(2, 3, 0);
        x.keep(3, 4, 0);
        x.make(4, 3, 5);
        x.make(5, 4, 4);
        x.keep(6, 1, 1);
        return x;
    }

    /** Ten CONTACTS of all KINDS, 16 LOADS, a chain of 12 STEPS, 40 points, something on each SHELF. */
    private static HeldPart full() {
        HeldPart x = tenContacts();
        for (int i = 0; i < 16; i++) {
            x.load(i - 8, 3 * i - 20, 11 * i - 50);
        }
        chain(x, 12);
        x.tool(6);
        for (int i = 0; i < 40; i++) {
            x.point(5 * i - 100, i % 2 == 0 ? 30 : 60);
        }
        x.keep(0, 1, 9);
        x.keep(1, 1, 3);
        x.keep(2, 3, 0);
        x.keep(3, 4, 0);
        x.make(4, 3, 60);
        x.make(5, 4, 20);
        x.keep(6, 1, 5);
        x.keep(7, 1, 0);
        return x;
    }

    private static HeldPart tenContacts() {
        HeldPart x = new HeldPart();
        int[] kinds = {0, 0, 1, 3, 0, 2, 1, 3, 2, 1};
        for (int i = 0; i < 10; i++) {
            x.contact(10 * kinds[i] + 3 * i % 8, 17 * i % 60 - 30, 23 * i % 50 - 20, 100 * (i + 1) + 2 * i);
            x.miss(i, 5 * i);
        }
        return x;
    }

    /** Each STEP has a SIDE other than the one ahead of it. */
    private static void chain(HeldPart x, int steps) {
        for (int i = 0; i < steps; i++) {
            x.step(1 << i % 6, i == 0 ? 0 : 1 << i - 1);
        }
    }

    private static HeldPart clampsTo(int direction, int n) {
        HeldPart x = new HeldPart();
        for (int i = 0; i < n; i++) {
            x.contact(20 + direction, 0, 0, 0);
        }
        return x;
    }

    private static HeldPart pinned(int... toldXY) {
        HeldPart x = new HeldPart();
        for (int i = 0; i + 2 < toldXY.length; i += 3) {
            x.contact(toldXY[i], toldXY[i + 1], toldXY[i + 2], 100);
        }
        return x;
    }

    private static HeldPart onPath(int radius, int... xy) {
        HeldPart x = new HeldPart();
        pathOf(x, radius, xy);
        return x;
    }

    private static void pathOf(HeldPart x, int radius, int... xy) {
        x.tool(radius);
        for (int i = 0; i + 1 < xy.length; i += 2) {
            x.point(xy[i], xy[i + 1]);
        }
    }

    // ---- of the whole

    private static void calls() {
        says("An object is used for at most 512 calls after it has been made");
        HeldPart x = new HeldPart();
        for (int i = 0; i < 170; i++) {
            due(x, "contact of round " + i, y -> y.contact(33, 1, 2, 405), 0);
            due(x, "keep of round " + i, y -> y.keep(7, 1, 0), 0);
            due(x, "undo of round " + i, HeldPart::undo, 0);
        }
        due(x, "call 511, undo()", HeldPart::undo, -3);
        due(x, "call 512, weight(7)", y -> y.weight(7), 2 * (10 + 5 + 4 + 100));
        HeldPart made = new HeldPart();
        for (int i = 0; i < 510; i++) {
            int what = 3 + i % 2;
            due(made, "make of round " + i, y -> y.make(3, what, 60), 0);
        }
        due(made, "call 511, element(3, 59)", y -> y.element(3, 59), 0);
        due(made, "call 512, element(3, 60)", y -> y.element(3, 60), STATE);
    }

    private static void asking() {
        says("Nothing is promised beyond the answers and state changes described above");
        Scene[] scenes = {HeldPart::new, HeldPartEdges::some, HeldPartEdges::full};
        for (Scene scene : scenes) {
            asked(scene, "rank()", HeldPart::rank);
            asked(scene, "hidden(1)", x -> x.hidden(1));
            asked(scene, "form()", HeldPart::form);
            asked(scene, "without(0)", x -> x.without(0));
            asked(scene, "held(1, 2, 3, 4)", x -> x.held(1, 2, 3, 4));
            asked(scene, "loads(100)", x -> x.loads(100));
            asked(scene, "pull()", HeldPart::pull);
            asked(scene, "worst(9, 9, 3, 210, true)", x -> x.worst(9, 9, 3, 210, true));
            asked(scene, "best(9, 9, 3)", x -> x.best(9, 9, 3));
            asked(scene, "setups()", HeldPart::setups);
            asked(scene, "setup(0, 1)", x -> x.setup(0, 1));
            asked(scene, "told(123, 9)", x -> x.told(123, 9));
            asked(scene, "meets(0)", x -> x.meets(0));
            asked(scene, "met()", HeldPart::met);
            asked(scene, "look(0, 5)", x -> x.look(0, 5));
            asked(scene, "wrench(0, 0, 2)", x -> x.wrench(0, 0, 2));
            asked(scene, "count(4)", x -> x.count(4));
            asked(scene, "element(2, 0)", x -> x.element(2, 0));
            asked(scene, "weight(1)", x -> x.weight(1));
            asked(scene, "toss(1)", x -> x.toss(1));
            asked(scene, "copy(2, 0, 2, 0, 0)", x -> x.copy(2, 0, 2, 0, 0));
        }
    }

    private static void asked(Scene scene, String text, Call call) {
        idle(scene, text, call, answer(scene.built(), call));
    }

    // ---- promise 1

    private static void newObject() {
        says("1: No CONTACTS, LOADS, STEPS; no PATH");
        for (int what = 0; what < 4; what++) {
            int w = what;
            due(new HeldPart(), "count(" + w + ")", x -> x.count(w), 0);
        }
        due(new HeldPart(), "undo()", HeldPart::undo, -3);
        due(new HeldPart(), "unload()", HeldPart::unload, 0);
        due(new HeldPart(), "loads(200)", x -> x.loads(200), 0);
        due(new HeldPart(), "setups()", HeldPart::setups, 0);
        due(new HeldPart(), "met()", HeldPart::met, -3);
        due(new HeldPart(), "tool(0)", x -> x.tool(0), 0);
        says("the tool is a disc of radius 0 .. 20 (0 at first)");
        due(new HeldPart(), "count(4)", x -> x.count(4), 0);
        HeldPart touched = pinned(0, 0, 0);
        touched.point(0, 0);
        due(touched, "meets(0) with both radii 0", x -> x.meets(0), -2);
        says("SHELVES 0 .. 7 each hold nothing (at first)");
        for (int shelf = 0; shelf < 8; shelf++) {
            int d = shelf;
            due(new HeldPart(), "weight(" + d + ")", x -> x.weight(d), -11);
            due(new HeldPart(), "toss(" + d + ")", x -> x.toss(d), -11);
            due(new HeldPart(), "copy(" + d + ", ..)", x -> x.copy(d, 0, d, 0, 0), -11);
            due(new HeldPart(), "element(" + d + ", 0)", x -> x.element(d, 0), STATE);
        }
        says("1: a new object has nothing of another");
        HeldPart other = full();
        HeldPart own = new HeldPart();
        other.undo();
        if (!later(own).equals(later(new HeldPart()))) {
            tell("a new object isn't as another new one");
        }
    }

    // ---- promise 2

    private static void contactTold() {
        says("2: KIND and DIRECTION told as 10 * KIND + DIRECTION");
        for (int told = -120; told <= 500; told++) {
            int t = told;
            boolean isThere = t >= 0 && t / 10 <= 3 && t % 10 <= 7;
            HeldPart x = new HeldPart();
            due(x, "contact(" + t + ", 1, 2, 100)", y -> y.contact(t, 1, 2, 100), isThere ? 0 : -1);
            due(x, "look(0, 0) behind contact(" + t + ")", y -> y.look(0, 0), isThere ? t / 10 : -1);
            due(x, "look(0, 1) behind contact(" + t + ")", y -> y.look(0, 1), isThere ? t % 10 : -1);
        }
        int[] none = {-10, -1, 8, 9, 18, 19, 28, 29, 38, 39, 40, LOW, LOW + 8, HIGH};
        for (int t : none) {
            idleAnywhere("contact(" + t + ", 1, 2, 100)", x -> x.contact(t, 1, 2, 100), -1);
        }
    }

    private static void contactPlace() {
        says("2: Each at (x, y), -100 .. 100");
        for (int kind = 0; kind < 4; kind++) {
            int t = 10 * kind + 1;
            for (int at = -105; at <= 105; at++) {
                int f = at;
                long want = f >= -100 && f <= 100 ? 0 : -1;
                due(new HeldPart(), "contact(" + t + ", " + f + ", 0, 100)", x -> x.contact(t, f, 0, 100), want);
                due(new HeldPart(), "contact(" + t + ", 0, " + f + ", 100)", x -> x.contact(t, 0, f, 100), want);
            }
        }
        int[] far = {-101, 101, LOW, HIGH};
        for (int f : far) {
            idleAnywhere("contact(2, " + f + ", 0, 0)", x -> x.contact(2, f, 0, 0), -1);
            idleAnywhere("contact(2, 0, " + f + ", 0)", x -> x.contact(2, 0, f, 0), -1);
        }
        HeldPart corners = pinned(2, 100, -100, 2, -100, 100, 0, 100, 100, 0, -100, -100);
        long[] turns = {100, -100, -100, 100};
        for (int contact = 0; contact < 4; contact++) {
            int c = contact;
            due(corners, "wrench(" + c + ", -1, 2)", x -> x.wrench(c, -1, 2), turns[c]);
        }
    }

    private static void contactMore() {
        says("2: GRIP of PADS, BALLS (1 .. 20); else any from 0 to 20; BODY 0 .. 20");
        for (int kind = 0; kind < 4; kind++) {
            int k = kind;
            int leastGrip = k == 1 || k == 3 ? 1 : 0;
            for (int more = -250; more <= 2350; more++) {
                int m = more;
                boolean isRight = m >= 0 && m / 100 >= leastGrip && m / 100 <= 20 && m % 100 <= 20;
                HeldPart x = new HeldPart();
                due(x, "contact(" + 10 * k + ", 0, 0, " + m + ")", y -> y.contact(10 * k, 0, 0, m), isRight ? 0 : -1);
                due(x, "look(0, 2) of more " + m, y -> y.look(0, 2), !isRight ? -1 : leastGrip == 1 ? m / 100 : 0);
                due(x, "look(0, 3) of more " + m, y -> y.look(0, 3), isRight ? m % 100 : -1);
            }
            int[] none = {LOW, -100, -1, 21, 99, 121, 2021, 2100, 2120, HIGH};
            for (int m : none) {
                idleAnywhere("contact(" + 10 * k + ", 0, 0, " + m + ")", x -> x.contact(10 * k, 0, 0, m), -1);
            }
        }
        for (int more = 0; more <= 20; more += 20) {
            int m = more;
            idleAnywhere("contact(10, 0, 0, " + m + "): a PAD without a GRIP", x -> x.contact(10, 0, 0, m), -1);
            idleAnywhere("contact(30, 0, 0, " + m + "): a BALL without a GRIP", x -> x.contact(30, 0, 0, m), -1);
        }
    }

    private static void contactFull() {
        says("2: CONTACTS 0 .. 9 as they come; -2: there are 10");
        HeldPart x = new HeldPart();
        for (int i = 0; i < 10; i++) {
            due(x, "contact " + i, y -> y.contact(0, 0, 0, 0), i);
        }
        due(x, "the eleventh", y -> y.contact(0, 0, 0, 0), -2);
        due(x, "undo()", HeldPart::undo, 9);
        due(x, "contact behind undo", y -> y.contact(37, 0, 0, 100), 9);
        int[] tolds = {0, 17, 20, 37};
        for (int t : tolds) {
            idle(HeldPartEdges::full, "contact(" + t + ", 0, 0, 100) of ten", y -> y.contact(t, 0, 0, 100), -2);
        }
        says("2: of several refusals -1 comes ahead of -2");
        idle(HeldPartEdges::full, "a wrong KIND of ten", y -> y.contact(40, 0, 0, 100), -1);
        idle(HeldPartEdges::full, "a wrong DIRECTION of ten", y -> y.contact(8, 0, 0, 100), -1);
        idle(HeldPartEdges::full, "a wrong x of ten", y -> y.contact(0, 101, 0, 100), -1);
        idle(HeldPartEdges::full, "a wrong y of ten", y -> y.contact(0, 0, -101, 100), -1);
        idle(HeldPartEdges::full, "a wrong BODY of ten", y -> y.contact(0, 0, 0, 21), -1);
        idle(HeldPartEdges::full, "a wrong GRIP of ten", y -> y.contact(10, 0, 0, 0), -1);
    }

    // ---- promise 3

    private static void undo() {
        says("3: The last CONTACT goes: how many there are");
        HeldPart x = full();
        for (int left = 9; left >= 0; left--) {
            int gone = left;
            due(x, "undo()", HeldPart::undo, left);
            due(x, "look(" + gone + ", 0): it is gone", y -> y.look(gone, 0), -1);
            due(x, "look(" + (gone - 1) + ", 1): the one ahead isn't", y -> y.look(gone - 1, 1),
                    gone == 0 ? -1 : 3 * (gone - 1) % 8);
        }
        says("3: -3: there is none");
        due(x, "undo() of none", HeldPart::undo, -3);
        due(x, "contact behind it", y -> y.contact(0, 0, 0, 0), 0);
        idle(HeldPart::new, "undo()", HeldPart::undo, -3);
        says("3: a CONTACT that comes behind undo is a new one");
        HeldPart again = some();
        again.undo();
        again.contact(14, 1, 1, 200);
        due(again, "look(4, 4)", y -> y.look(4, 4), 0);
        due(again, "look(4, 0)", y -> y.look(4, 0), 1);
    }

    // ---- promise 4

    private static void move() {
        says("4: 1 if it was elsewhere, else 0");
        HeldPart x = some();
        due(x, "move(1, 10, 0): where it is", y -> y.move(1, 10, 0), 0);
        due(x, "move(1, 11, 0): x alone", y -> y.move(1, 11, 0), 1);
        due(x, "move(1, 11, 1): y alone", y -> y.move(1, 11, 1), 1);
        due(x, "move(1, 11, 1) again", y -> y.move(1, 11, 1), 0);
        due(x, "move(1, 10, 0): back", y -> y.move(1, 10, 0), 1);
        idle(HeldPartEdges::some, "move(1, 10, 0) where it is", y -> y.move(1, 10, 0), 0);
        says("4: at (x, y), -100 .. 100");
        int[] ends = {-100, 100};
        for (int e : ends) {
            due(some(), "move(0, " + e + ", 0)", y -> y.move(0, e, 0), 1);
            due(some(), "move(0, 0, " + e + ")", y -> y.move(0, 0, e), 1);
            due(some(), "move(3, " + e + ", " + -e + ")", y -> y.move(3, e, -e), 1);
        }
        int[] far = {-101, 101, LOW, HIGH};
        for (int f : far) {
            idleAnywhere("move(0, " + f + ", 50)", y -> y.move(0, f, 50), -1);
            idleAnywhere("move(0, 50, " + f + ")", y -> y.move(0, 50, f), -1);
        }
        says("4: -1: no such CONTACT");
        idle(HeldPart::new, "move(0, 1, 1)", y -> y.move(0, 1, 1), -1);
        noSuchContact("move(c, 1, 1)", c -> y -> y.move(c, 1, 1), -1);
        due(full(), "move(9, 1, 1): the last there can be", y -> y.move(9, 1, 1), 1);
    }

    private interface OfContact {
        Call call(int contact);
    }

    private static void noSuchContact(String text, OfContact of, long want) {
        int[] never = {LOW, -10, -1, 10, 11, 256, HIGH};
        for (int c : never) {
            idleAnywhere(text + " with c = " + c, of.call(c), want);
        }
        idle(HeldPartEdges::some, text + " with c = 5 of five", of.call(5), want);
        idle(HeldPartEdges::some, text + " with c = 9 of five", of.call(9), want);
        HeldPart gone = some();
        gone.undo();
        due(gone, text + " with c = 4 behind undo", of.call(4), want);
    }

    // ---- promise 5

    private static void miss() {
        says("5: each PIN (PAD, BALL) has a MISS 0 .. 50 (0 at first)");
        int[] tolds = {0, 10, 30};
        for (int t : tolds) {
            HeldPart x = new HeldPart();
            x.contact(t, 0, 0, 100);
            due(x, "look(0, 4) at first", y -> y.look(0, 4), 0);
            due(x, "miss(0, 50) of " + t, y -> y.miss(0, 50), 0);
            due(x, "miss(0, 51) of " + t, y -> y.miss(0, 51), -1);
            due(x, "miss(0, 0) of " + t, y -> y.miss(0, 0), 50);
            due(x, "miss(0, -1) of " + t, y -> y.miss(0, -1), -1);
            due(x, "miss(0, 1) of " + t, y -> y.miss(0, 1), 0);
        }
        for (int n = -60; n <= 110; n++) {
            int m = n;
            due(some(), "miss(4, " + m + ")", y -> y.miss(4, m), m >= 0 && m <= 50 ? 7 : -1);
        }
        int[] wrongs = {LOW, -1, 51, HIGH};
        for (int n : wrongs) {
            idleAnywhere("miss(0, " + n + ")", y -> y.miss(0, n), -1);
        }
        says("5: -1: no such CONTACT");
        idle(HeldPart::new, "miss(0, 1)", y -> y.miss(0, 1), -1);
        noSuchContact("miss(c, 1)", c -> y -> y.miss(c, 1), -1);
        due(full(), "miss(9, 1): the last there can be", y -> y.miss(9, 1), 45);
        says("5: -4: it is a CLAMP");
        for (int n = 0; n <= 50; n += 25) {
            int m = n;
            idle(HeldPartEdges::some, "miss(3, " + m + ")", y -> y.miss(3, m), -4);
        }
        says("5: of several refusals -1 comes ahead of -4");
        for (int n : wrongs) {
            idle(HeldPartEdges::some, "miss(3, " + n + ")", y -> y.miss(3, n), -1);
        }
    }

    // ---- promise 6

    private static void look() {
        says("6: 2 GRIP (0: none)");
        long[] grips = {0, 3, 0, 0, 7};
        long[] misses = {4, 2, 0, -2, 7};
        long[] pushes = {1, 2, 1, 1, 3};
        for (int contact = 0; contact < 5; contact++) {
            int c = contact;
            due(some(), "look(" + c + ", 2)", y -> y.look(c, 2), grips[c]);
        }
        due(pinned(0, 0, 0), "look(0, 2) of a PIN told with a GRIP", y -> y.look(0, 2), 0);
        due(pinned(20, 0, 0), "look(0, 2) of a CLAMP told with a GRIP", y -> y.look(0, 2), 0);
        says("6: 4 MISS (-2: none)");
        for (int contact = 0; contact < 5; contact++) {
            int c = contact;
            due(some(), "look(" + c + ", 4)", y -> y.look(c, 4), misses[c]);
        }
        says("6: 5 how many PUSHES");
        for (int contact = 0; contact < 5; contact++) {
            int c = contact;
            due(some(), "look(" + c + ", 5)", y -> y.look(c, 5), pushes[c]);
        }
        says("6: -1");
        int[] whats = {LOW, -1, 6, 7, HIGH};
        for (int what : whats) {
            idleAnywhere("look(0, " + what + ")", y -> y.look(0, what), -1);
        }
        idle(HeldPart::new, "look(0, 0)", y -> y.look(0, 0), -1);
        noSuchContact("look(c, 3)", c -> y -> y.look(c, 3), -1);
        noSuchContact("look(c, 4)", c -> y -> y.look(c, 4), -1);
        due(full(), "look(9, 3): the last there can be", y -> y.look(9, 3), 18);
    }

    // ---- promise 7

    private static void wrench() {
        says("7: IllegalArgumentException: no such part (0, 1, 2)");
        int[] parts = {LOW, -1, 3, HIGH};
        for (int part : parts) {
            idleAnywhere("wrench(0, 0, " + part + ")", y -> y.wrench(0, 0, part), ARGUMENT);
            idleAnywhere("wrench(0, -1, " + part + ")", y -> y.wrench(0, -1, part), ARGUMENT);
        }
        says("7: IllegalArgumentException: no such push (-1, or one of its PUSHES)");
        int[] pushes = {1, 2, 1, 1, 3};
        for (int contact = 0; contact < 5; contact++) {
            int c = contact;
            long last = some().look(c, 5) - 1;
            due(some(), "how many PUSHES", y -> last + 1, pushes[c]);
            for (int push = -1; push < pushes[c]; push++) {
                int p = push;
                for (int part = 0; part < 3; part++) {
                    int at = part;
                    HeldPart x = some();
                    if (answer(x, y -> y.wrench(c, p, at)) == ARGUMENT) {
                        tell("wrench(" + c + ", " + p + ", " + at + ") is there, but throws");
                    }
                }
            }
            idle(HeldPartEdges::some, "wrench(" + c + ", just beyond)", y -> y.wrench(c, pushes[c], 0), ARGUMENT);
            idle(HeldPartEdges::some, "wrench(" + c + ", -2)", y -> y.wrench(c, -2, 0), ARGUMENT);
            idle(HeldPartEdges::some, "wrench(" + c + ", LOW)", y -> y.wrench(c, LOW, 0), ARGUMENT);
            idle(HeldPartEdges::some, "wrench(" + c + ", HIGH)", y -> y.wrench(c, HIGH, 0), ARGUMENT);
        }
        says("7: IllegalArgumentException: no such CONTACT");
        idle(HeldPart::new, "wrench(0, -1, 0)", y -> y.wrench(0, -1, 0), ARGUMENT);
        noSuchContact("wrench(c, -1, 0)", c -> y -> y.wrench(c, -1, 0), ARGUMENT);
    }

    private static void wrenchOrder() {
        says("PAD: (10 p - g q, 10 q + g p) and (10 p + g q, 10 q - g p) .. BALL: both, and its DIRECTION ten times"
                + " between them");
        int[] directionX = {1, 1, 0, -1, -1, -1, 0, 1};
        int[] directionY = {0, 1, 1, 1, 0, -1, -1, -1};
        int[] grips = {1, 20};
        int[] corners = {-100, 100};
        for (int direction = 0; direction < 8; direction++) {
            int p = directionX[direction];
            int q = directionY[direction];
            for (int g : grips) {
                for (int at : corners) {
                    HeldPart x = new HeldPart();
                    x.contact(10 + direction, at, 100, 100 * g);
                    x.contact(30 + direction, at, -100, 100 * g);
                    onePush(x, 0, -1, at, 100, p, q);
                    onePush(x, 0, 0, at, 100, 10 * p - g * q, 10 * q + g * p);
                    onePush(x, 0, 1, at, 100, 10 * p + g * q, 10 * q - g * p);
                    onePush(x, 1, -1, at, -100, p, q);
                    onePush(x, 1, 0, at, -100, 10 * p - g * q, 10 * q + g * p);
                    onePush(x, 1, 1, at, -100, 10 * p, 10 * q);
                    onePush(x, 1, 2, at, -100, 10 * p + g * q, 10 * q - g * p);
                }
            }
        }
    }

    private static void onePush(HeldPart x, int contact, int push, int... placeAndPush) {
        int p = placeAndPush[2];
        int q = placeAndPush[3];
        long[] want = {p, q, placeAndPush[0] * q - placeAndPush[1] * p};
        for (int part = 0; part < 3; part++) {
            int at = part;
            due(x, "wrench(" + contact + ", " + push + ", " + part + ")", y -> y.wrench(contact, push, at), want[part]);
        }
    }

    // ---- promises 8, 9

    private static void rank() {
        says("8: rank 3 (0 .. 3)");
        due(new HeldPart(), "rank() of none", HeldPart::rank, 0);
        due(pinned(2, 0, 0), "rank() of one", HeldPart::rank, 1);
        due(pinned(2, 0, 0, 6, 0, 9), "rank() of two on a line", HeldPart::rank, 1);
        due(pinned(2, 0, 0, 2, 1, 0), "rank() of two beside one another", HeldPart::rank, 2);
        due(pinned(2, 0, 0, 2, 1, 0, 6, 2, 0), "rank() of three of like directions", HeldPart::rank, 2);
        due(pinned(2, 0, 0, 0, 0, 0, 1, 0, 0), "rank() of three through a place", HeldPart::rank, 2);
        due(pinned(2, 0, 0, 0, 0, 0, 1, 1, 0), "rank() of three past a place", HeldPart::rank, 3);
        due(pinned(12, -100, 100, 12, 100, 100, 30, 0, 0), "rank() of PADS and a BALL", HeldPart::rank, 3);
        due(tenContacts(), "rank() of ten", HeldPart::rank, 3);
        says("8: PINS, PADS and BALLS (not CLAMPS)");
        due(pinned(22, 0, 0), "rank() of a CLAMP", HeldPart::rank, 0);
        due(pinned(22, 0, 0, 2, 0, 0, 20, 0, 0), "rank() beside CLAMPS", HeldPart::rank, 1);
        due(pinned(2, 0, 0, 2, 1, 0, 20, 0, 0), "rank() of two beside a CLAMP", HeldPart::rank, 2);
        due(pinned(2, 0, 0, 2, 0, 0, 2, 0, 0, 2, 0, 0, 2, 0, 0, 2, 0, 0, 2, 0, 0, 2, 0, 0, 2, 1, 0, 0, 0, 0),
                "rank() by the last two of ten", HeldPart::rank, 3);
        says("8: the rank is that of the CONTACTS there are then, whatever was asked before");
        HeldPart x = pinned(2, 0, 0, 2, 1, 0, 20, 0, 0);
        due(x, "form()", HeldPart::form, 0);
        due(x, "rank() behind form()", HeldPart::rank, 2);
        due(x, "without(0)", y -> y.without(0), 0);
        due(x, "rank() behind without(0)", HeldPart::rank, 2);
        x.contact(0, 0, 0, 0);
        due(x, "rank() behind contact", HeldPart::rank, 3);
        x.undo();
        due(x, "rank() behind undo", HeldPart::rank, 2);
        x.move(1, 0, 50);
        due(x, "rank() behind move", HeldPart::rank, 1);
        x.undo();
        x.undo();
        x.undo();
        due(x, "rank() behind the last undo", HeldPart::rank, 0);
        says("8: WRENCHES of DIRECTIONS, not of PUSHES");
        due(pinned(12, 0, 0), "rank() of a PAD", HeldPart::rank, 1);
        due(pinned(32, 0, 0), "rank() of a BALL", HeldPart::rank, 1);
    }

    private static void hidden() {
        says("9: IllegalStateException: the rank isn't 2");
        for (int what = 0; what < 3; what++) {
            int w = what;
            String text = "hidden(" + w + ")";
            idle(HeldPart::new, text + " of none", x -> x.hidden(w), STATE);
            idle(() -> pinned(2, 0, 0, 6, 0, 9, 20, 0, 0), text + " of rank 1", x -> x.hidden(w), STATE);
            idle(HeldPartEdges::some, text + " of rank 3", x -> x.hidden(w), STATE);
        }
        says("9: IllegalArgumentException: no such");
        int[] none = {LOW, -1, 3, HIGH};
        for (int what : none) {
            idle(() -> pinned(2, 0, 0, 2, 1, 0), "hidden(" + what + ") of rank 2", x -> x.hidden(what), ARGUMENT);
        }
        says("9: of several refusals that of an argument comes first");
        for (int what : none) {
            idleAnywhere("hidden(" + what + ")", x -> x.hidden(what), ARGUMENT);
        }
        says("9: the first of w, a, b that isn't 0 above 0");
        motion(pinned(0, 4, 3, 2, 4, 3), 3, -4, 1);
        motion(pinned(2, 4, 3, 0, 4, 3), 3, -4, 1);
        motion(pinned(0, -4, -3, 2, -4, -3), -3, 4, 1);
        motion(pinned(3, 0, 0, 3, 1, 0), 1, 1, 0);
        motion(pinned(3, 1, 0, 3, 0, 0), 1, 1, 0);
        motion(pinned(1, 0, 0, 1, 1, 0), 1, -1, 0);
        motion(pinned(1, 1, 0, 1, 0, 0), 1, -1, 0);
        motion(pinned(0, 0, 0, 0, 0, 1), 0, 1, 0);
        motion(pinned(0, 0, 1, 0, 0, 0), 0, 1, 0);
        motion(pinned(2, 0, 0, 2, 1, 0), 1, 0, 0);
        motion(pinned(0, 0, 0, 2, 0, 0), 0, 0, 1);
        says("9: without a common divisor");
        motion(pinned(1, 100, -100, 3, -100, -100), -200, 0, 1);
        motion(pinned(2, -100, 0, 6, 100, 0), 1, 0, 0);
        motion(pinned(1, 0, 0, 3, 0, 5), 5, -5, 2);
        motion(pinned(1, 0, 0, 3, 0, 4), 2, -2, 1);
    }

    private static void motion(HeldPart x, long... want) {
        for (int what = 0; what < 3; what++) {
            int w = what;
            due(x, "hidden(" + w + ")", y -> y.hidden(w), want[w]);
        }
    }

    // ---- promises 10, 11

    /** Two against two: held just if both pairs turn the part, one against the other. */
    private static HeldPart twoPairs(int y, int x) {
        return pinned(0, 0, 0, 4, 0, y, 2, 0, 0, 6, x, 0);
    }

    private static void form() {
        says("10: their rank is 3");
        due(new HeldPart(), "form() of none", HeldPart::form, 0);
        due(pinned(0, 0, 0), "form() of one", HeldPart::form, 0);
        due(pinned(0, 0, 0, 4, 0, 0), "form() of rank 1, both ways", HeldPart::form, 0);
        due(pinned(0, 0, 0, 3, 0, 0, 5, 0, 0), "form() of rank 2, all ways", HeldPart::form, 0);
        due(twoPairs(0, 0), "form() of rank 2, two against two", HeldPart::form, 0);
        due(pinned(0, 0, 0, 3, 0, 0, 5, 1, 0), "form() of three of rank 3", HeldPart::form, 0);
        says("10: there is no motion but 0 for which a p + b q + w m is 0 or above for all of them");
        due(twoPairs(1, 1), "form() of two against two", HeldPart::form, 1);
        due(twoPairs(-1, -1), "form() of two against two, the other way", HeldPart::form, 1);
        due(twoPairs(100, 1), "form() far out", HeldPart::form, 1);
        due(twoPairs(1, -1), "form() both turn alike", HeldPart::form, 0);
        due(twoPairs(1, 0), "form() one pair doesn't turn it: 0 is enough for a motion", HeldPart::form, 0);
        due(twoPairs(0, -1), "form() the other pair doesn't", HeldPart::form, 0);
        says("10: all CONTACTS");
        due(pinned(20, 0, 0, 24, 0, 1, 22, 0, 0, 26, 1, 0), "form() of CLAMPS alone", HeldPart::form, 1);
        due(pinned(0, 0, 0, 14, 0, 1, 32, 0, 0, 26, 1, 0), "form() of all KINDS", HeldPart::form, 1);
        says("10: their WRENCHES of DIRECTIONS, whatever the GRIP");
        HeldPart gripped = new HeldPart();
        gripped.contact(10, 0, 0, 2000);
        gripped.contact(14, 0, 0, 2000);
        gripped.contact(12, 0, 0, 2000);
        gripped.contact(36, 0, 0, 2000);
        due(gripped, "form() of PADS against PADS", HeldPart::form, 0);
    }

    private static void without() {
        says("11: Whether it would be without a CONTACT");
        for (int contact = 0; contact < 4; contact++) {
            int c = contact;
            due(twoPairs(1, 1), "without(" + c + ") of four", x -> x.without(c), 0);
        }
        HeldPart spare = twoPairs(1, 1);
        spare.contact(26, 1, 5, 0);
        long[] want = {0, 0, 0, 1, 1};
        for (int contact = 0; contact < 5; contact++) {
            int c = contact;
            due(spare, "without(" + c + ") of five", x -> x.without(c), want[c]);
        }
        due(spare, "form(): none has gone", HeldPart::form, 1);
        due(pinned(2, 0, 0), "without(0) of one", x -> x.without(0), 0);
        HeldPart ten = pinned(0, 0, 0, 4, 0, 1, 2, 0, 0, 6, 1, 0, 1, 0, 0, 1, 0, 0, 1, 0, 0, 1, 0, 0, 1, 0, 0, 1, 0, 0);
        due(ten, "without(9) of ten", x -> x.without(9), 1);
        due(ten, "without(3) of ten", x -> x.without(3), 0);
        says("11: -1");
        idle(HeldPart::new, "without(0) of none", x -> x.without(0), -1);
        noSuchContact("without(c)", c -> x -> x.without(c), -1);
    }

    // ---- promises 12 to 16

    private static void heldRanges() {
        says("12: A LOAD is a WRENCH (p, q, m; -1000 .. 1000 each)");
        int[] ends = {-1000, 1000};
        for (int e : ends) {
            due(new HeldPart(), "held(" + e + ", 0, 0, 0)", x -> x.held(e, 0, 0, 0), 0);
            due(new HeldPart(), "held(0, " + e + ", 0, 0)", x -> x.held(0, e, 0, 0), 0);
            due(new HeldPart(), "held(0, 0, " + e + ", 0)", x -> x.held(0, 0, e, 0), 0);
            due(twoPairs(1, 1), "held(" + e + ", " + e + ", " + e + ", 0) by form", x -> x.held(e, e, e, 0), 1);
        }
        int[] beyond = {LOW, -1001, 1001, HIGH};
        for (int b : beyond) {
            idleAnywhere("held(" + b + ", 0, 0, 0)", x -> x.held(b, 0, 0, 0), -1);
            idleAnywhere("held(0, " + b + ", 0, 0)", x -> x.held(0, b, 0, 0), -1);
            idleAnywhere("held(0, 0, " + b + ", 0)", x -> x.held(0, 0, b, 0), -1);
        }
        says("12: a PULL (0 .. 200)");
        due(new HeldPart(), "held(0, 0, 0, 0)", x -> x.held(0, 0, 0, 0), 1);
        due(new HeldPart(), "held(0, 0, 0, 200)", x -> x.held(0, 0, 0, 200), 1);
        int[] pulls = {LOW, -1, 201, HIGH};
        for (int p : pulls) {
            idleAnywhere("held(0, 0, 0, " + p + ")", x -> x.held(0, 0, 0, p), -1);
        }
    }

    private static void heldEdges() {
        says("12: numbers, 0 or above");
        int[][] near = {{1, 0, 0}, {-1, 0, 0}, {0, 1, 0}, {0, -1, 0}, {0, 0, 1}, {0, 0, -1}};
        for (int[] n : near) {
            due(new HeldPart(), "held by nothing", x -> x.held(n[0], n[1], n[2], 0), 0);
        }
        HeldPart pin = pinned(2, 3, 0);
        due(pin, "held(0, 0, 0, 0) by a PIN that needn't push", x -> x.held(0, 0, 0, 0), 1);
        due(pin, "held(0, -1, -3, 0) by a PIN", x -> x.held(0, -1, -3, 0), 1);
        due(pin, "held(0, -333, -999, 0) by a PIN", x -> x.held(0, -333, -999, 0), 1);
        due(pin, "held(0, 1, 3, 0): it doesn't draw", x -> x.held(0, 1, 3, 0), 0);
        due(pin, "held(0, -333, -1000, 0)", x -> x.held(0, -333, -1000, 0), 0);
        due(pin, "held(0, -333, -998, 0)", x -> x.held(0, -333, -998, 0), 0);
        due(pin, "held(1, -333, -999, 0)", x -> x.held(1, -333, -999, 0), 0);
        HeldPart both = pinned(2, 3, 0, 6, 3, 7);
        due(both, "held(0, 1, 3, 0) by two against", x -> x.held(0, 1, 3, 0), 1);
        due(both, "held(0, -1, -3, 0) by two against", x -> x.held(0, -1, -3, 0), 1);
        due(both, "held(0, 1, 2, 0)", x -> x.held(0, 1, 2, 0), 0);
        HeldPart beside = pinned(2, 0, 0, 2, 10, 0);
        due(beside, "held(0, -100, 0, 0) at one end", x -> x.held(0, -100, 0, 0), 1);
        due(beside, "held(0, -100, 1, 0) past it", x -> x.held(0, -100, 1, 0), 0);
        due(beside, "held(0, -100, -1000, 0) at the other", x -> x.held(0, -100, -1000, 0), 1);
        due(beside, "held(0, -99, -991, 0) past it", x -> x.held(0, -99, -991, 0), 0);
        due(beside, "held(1, -100, -50, 0) aside", x -> x.held(1, -100, -50, 0), 0);
        says("12: WRENCHES of all PUSHES: of a PAD and a BALL up to the GRIP");
        int[] tolds = {12, 32};
        for (int t : tolds) {
            HeldPart grips = new HeldPart();
            grips.contact(t, 0, 0, 700);
            due(grips, "held(7, -10, 0, 0)", x -> x.held(7, -10, 0, 0), 1);
            due(grips, "held(-7, -10, 0, 0)", x -> x.held(-7, -10, 0, 0), 1);
            due(grips, "held(0, -10, 0, 0)", x -> x.held(0, -10, 0, 0), 1);
            due(grips, "held(701, -1000, 0, 0)", x -> x.held(701, -1000, 0, 0), 0);
            due(grips, "held(-701, -1000, 0, 0)", x -> x.held(-701, -1000, 0, 0), 0);
            due(grips, "held(700, -1000, 1, 0)", x -> x.held(700, -1000, 1, 0), 0);
            due(grips, "held(0, 1, 0, 0)", x -> x.held(0, 1, 0, 0), 0);
        }
    }

    /** Just the sums of the WRENCHES times numbers 0 or above are held: those times -1, 0, 1 tell all sides. */
    private static void heldBySums(HeldPart x, int n, int... aside) {
        for (int told = 0; told < 27; told++) {
            int[] times = {told % 3 - 1, n > 1 ? told / 3 % 3 - 1 : 0, n > 2 ? told / 9 - 1 : 0};
            int[] sum = {aside[0], aside[1], aside[2]};
            boolean isHeld = aside[0] == 0 && aside[1] == 0 && aside[2] == 0;
            for (int contact = 0; contact < n; contact++) {
                isHeld &= times[contact] >= 0;
                for (int part = 0; part < 3; part++) {
                    sum[part] -= times[contact] * (int) x.wrench(contact, -1, part);
                }
            }
            due(x, "held(" + sum[0] + ", " + sum[1] + ", " + sum[2] + ", 7) by " + n,
                    y -> y.held(sum[0], sum[1], sum[2], 7), isHeld ? 1 : 0);
        }
    }

    /** Whether CONTACT 0 pushes in the one part alone in which a unit isn't 0. */
    private static boolean isAlong(HeldPart x, int[] unit) {
        for (int part = 0; part < 3; part++) {
            if (unit[part] == 0 && x.wrench(0, -1, part) != 0) {
                return false;
            }
        }
        return true;
    }

    private static void heldByPins() {
        says("12: .. and the LOAD come to 0 in all three parts");
        int[] places = {-100, -3, 0, 7, 100};
        int[][] aside = {{1, 0, 0}, {-1, 0, 0}, {0, 1, 0}, {0, -1, 0}, {0, 0, 1}, {0, 0, -1}};
        for (int direction = 0; direction < 8; direction++) {
            for (int fx : places) {
                for (int fy : places) {
                    heldBySums(pinned(direction, fx, fy), 1, 0, 0, 0);
                    for (int[] a : aside) {
                        HeldPart x = pinned(direction, fx, fy);
                        if (!isAlong(x, a)) {
                            heldBySums(x, 1, a);
                        }
                    }
                }
            }
        }
        for (int first = 0; first < 8; first++) {
            for (int second = 0; second < 8; second++) {
                if ((second - first) % 4 != 0) {
                    heldBySums(pinned(first, 3, -4, second, 3, -4), 2, 0, 0, 0);
                    heldBySums(pinned(first, 3, -4, second, 3, -4), 2, 0, 0, 1);
                    heldBySums(pinned(first, 3, -4, second, 3, -4), 2, 0, 0, -1);
                    heldBySums(pinned(first, 0, 0, second, 0, 0, first, 9, 5), 3, 0, 0, 0);
                    heldBySums(pinned(second, 9, 5, second, 0, 0, first, 0, 0), 3, 0, 0, 0);
                }
            }
            int turned = (first + 2) % 8;
            heldBySums(pinned(first, -5, 8, first, 9, 9), 2, 0, 0, 0);
            heldBySums(pinned(first, 0, 0, (first + 4) % 8, 9, 5), 2, 0, 0, 0);
            heldBySums(pinned(first, 1, 2, turned, 9, 5, (first + 5) % 8, 30, 30), 3, 0, 0, 0);
        }
    }

    private static void heldByTen() {
        says("12: WRENCHES of all PUSHES, of ten BALLS too");
        for (int contact = 0; contact < 10; contact++) {
            HeldPart x = new HeldPart();
            for (int i = 0; i < 10; i++) {
                x.contact(32, i == contact ? 10 : 0, 0, i == contact ? 900 : 800);
            }
            due(x, "held(9, -10, -100, 0)", y -> y.held(9, -10, -100, 0), 1);
            due(x, "held(-9, -10, -100, 0)", y -> y.held(-9, -10, -100, 0), 1);
            due(x, "held(9, -10, -99, 0)", y -> y.held(9, -10, -99, 0), 0);
            due(x, "held(0, -10, -101, 0)", y -> y.held(0, -10, -101, 0), 0);
            due(x, "held(8, -10, 0, 0)", y -> y.held(8, -10, 0, 0), 1);
            due(x, "held(0, -10, 1, 0)", y -> y.held(0, -10, 1, 0), 0);
        }
        says("12: HELD by the CONTACTS there are then");
        HeldPart x = pinned(3, 5, 0, 22, 1, 0, 20, 0, 1);
        due(x, "held(1, -1, -5, 0)", y -> y.held(1, -1, -5, 0), 1);
        due(x, "held(-2, -2, 0, 2)", y -> y.held(-2, -2, 0, 2), 1);
        due(x, "move(0, 6, 0)", y -> y.move(0, 6, 0), 1);
        due(x, "held(1, -1, -5, 0) behind move", y -> y.held(1, -1, -5, 0), 0);
        due(x, "held(1, -1, -6, 0) behind move", y -> y.held(1, -1, -6, 0), 1);
        due(x, "held(-2, -2, 0, 2) behind move", y -> y.held(-2, -2, 0, 2), 1);
        due(x, "move(1, 3, 0)", y -> y.move(1, 3, 0), 1);
        due(x, "held(-2, -2, -4, 2) behind a CLAMP's move", y -> y.held(-2, -2, -4, 2), 1);
        due(x, "undo()", HeldPart::undo, 2);
        due(x, "held(0, -2, -6, 2) behind a CLAMP's undo", y -> y.held(0, -2, -6, 2), 1);
        due(x, "undo()", HeldPart::undo, 1);
        due(x, "held(0, 0, 0, 2) behind both CLAMPS' undo", y -> y.held(0, 0, 0, 2), 1);
        due(x, "undo()", HeldPart::undo, 0);
        due(x, "held(1, -1, -6, 0) behind the PIN's undo", y -> y.held(1, -1, -6, 0), 0);
        HeldPart falls = pinned(1, 1, 0, 10, 0, 5);
        due(falls, "held(-10, -10, -10, 0) of rank 3", y -> y.held(-10, -10, -10, 0), 1);
        due(falls, "undo()", HeldPart::undo, 1);
        due(falls, "held(-10, -10, -10, 0) behind the fall to rank 1", y -> y.held(-10, -10, -10, 0), 1);
        due(falls, "held(10, 10, 10, 0) behind the fall to rank 1", y -> y.held(10, 10, 10, 0), 0);
    }

    private static void heldByClamps() {
        says("12: the WRENCHES of CLAMPS' DIRECTIONS times PULL: just that, no more and no less");
        HeldPart five = clampsTo(4, 5);
        due(five, "held(1000, 0, 0, 200)", x -> x.held(1000, 0, 0, 200), 1);
        due(five, "held(1000, 0, 0, 199)", x -> x.held(1000, 0, 0, 199), 0);
        due(five, "held(995, 0, 0, 199)", x -> x.held(995, 0, 0, 199), 1);
        due(five, "held(996, 0, 0, 199)", x -> x.held(996, 0, 0, 199), 0);
        due(five, "held(0, 0, 0, 0)", x -> x.held(0, 0, 0, 0), 1);
        due(five, "held(0, 0, 0, 1)", x -> x.held(0, 0, 0, 1), 0);
        due(five, "held(5, 0, 0, 0)", x -> x.held(5, 0, 0, 0), 0);
        HeldPart turning = pinned(22, 5, 0);
        due(turning, "held(0, -200, -1000, 200)", x -> x.held(0, -200, -1000, 200), 1);
        due(turning, "held(0, -200, -999, 200)", x -> x.held(0, -200, -999, 200), 0);
        says("12: a PULL, the same for each CLAMP");
        HeldPart two = pinned(24, 0, 0, 26, 0, 0);
        due(two, "held(9, 9, 0, 9)", x -> x.held(9, 9, 0, 9), 1);
        due(two, "held(9, 8, 0, 9)", x -> x.held(9, 8, 0, 9), 0);
        due(two, "held(9, 8, 0, 8)", x -> x.held(9, 8, 0, 8), 0);
    }

    /** Nine against one that pushes back along their very line, at the corner where they turn the most. */
    private static void heldAtMost() {
        says("12: with the largest LOADS, PULLS and places that there can be");
        int[] tolds = {1, 11, 31};
        for (int t : tolds) {
            HeldPart x = new HeldPart();
            x.contact(t, 100, -100, 2000);
            for (int i = 0; i < 9; i++) {
                x.contact(25, 100, -100, 0);
            }
            boolean grips = t != 1;
            due(x, "held(0, 0, 0, 200) by " + t, y -> y.held(0, 0, 0, 200), 1);
            due(x, "held(0, 0, 1, 200) by " + t, y -> y.held(0, 0, 1, 200), 0);
            due(x, "held(0, 0, -1, 200) by " + t, y -> y.held(0, 0, -1, 200), 0);
            due(x, "held(0, 0, 1000, 200) by " + t, y -> y.held(0, 0, 1000, 200), 0);
            due(x, "held(5, 5, 1000, 200) by " + t, y -> y.held(5, 5, 1000, 200), 1);
            due(x, "held(5, -5, 0, 200) by " + t, y -> y.held(5, -5, 0, 200), grips ? 1 : 0);
            due(x, "held(-1000, 1000, 0, 200) by " + t, y -> y.held(-1000, 1000, 0, 200), grips ? 1 : 0);
            due(x, "held(5, 5, 1000, 0): it can't draw, by " + t, y -> y.held(5, 5, 1000, 0), 0);
            x.load(5, 5, 1000);
            due(x, "pull() by " + t, HeldPart::pull, 1);
            x.load(1000, -1000, 0);
            due(x, "pull() to grip by " + t, HeldPart::pull, grips ? 56 : -4);
        }
    }

    private static void load() {
        says("13: LOADS 0 .. 15 as they come; -2: there are 16");
        HeldPart x = new HeldPart();
        for (int i = 0; i < 16; i++) {
            int at = i;
            due(x, "load " + at, y -> y.load(at, 0, 0), at);
        }
        due(x, "load 16", y -> y.load(0, 0, 0), -2);
        due(x, "loads(0): the first alone is held", y -> y.loads(0), 1);
        due(x, "unload()", HeldPart::unload, 16);
        due(x, "load behind unload", y -> y.load(0, 0, 0), 0);
        idle(HeldPartEdges::full, "load(1, 2, 3) of sixteen", y -> y.load(1, 2, 3), -2);
        says("13: -1000 .. 1000 each");
        int[] ends = {-1000, 1000};
        for (int e : ends) {
            due(new HeldPart(), "load(" + e + ", 0, 0)", y -> y.load(e, 0, 0), 0);
            due(new HeldPart(), "load(0, " + e + ", 0)", y -> y.load(0, e, 0), 0);
            due(new HeldPart(), "load(0, 0, " + e + ")", y -> y.load(0, 0, e), 0);
        }
        says("13: -1, ahead of -2");
        int[] beyond = {LOW, -1001, 1001, HIGH};
        for (int b : beyond) {
            idleAnywhere("load(" + b + ", 0, 0)", y -> y.load(b, 0, 0), -1);
            idleAnywhere("load(0, " + b + ", 0)", y -> y.load(0, b, 0), -1);
            idleAnywhere("load(0, 0, " + b + ")", y -> y.load(0, 0, b), -1);
        }
    }

    private static void unload() {
        says("14: All LOADS go: how many");
        due(new HeldPart(), "unload() of none", HeldPart::unload, 0);
        due(full(), "unload() of sixteen", HeldPart::unload, 16);
        HeldPart x = some();
        due(x, "unload()", HeldPart::unload, 3);
        due(x, "unload() again", HeldPart::unload, 0);
        due(x, "count(1)", y -> y.count(1), 0);
        due(x, "loads(200)", y -> y.loads(200), 0);
        due(x, "pull()", HeldPart::pull, 0);
        idle(HeldPart::new, "unload() of none", HeldPart::unload, 0);
    }

    private static void loads() {
        says("15: The LOADS against which it is HELD with a PULL, as bits");
        due(new HeldPart(), "loads(0) of no LOADS", y -> y.loads(0), 0);
        HeldPart all = new HeldPart();
        HeldPart last = new HeldPart();
        HeldPart first = new HeldPart();
        for (int i = 0; i < 16; i++) {
            all.load(0, 0, 0);
            last.load(i < 15 ? 1 : 0, 0, 0);
            first.load(i > 0 ? -1 : 0, 0, 0);
        }
        due(all, "loads(0): all sixteen", y -> y.loads(0), 0xFFFF);
        due(last, "loads(0): the last", y -> y.loads(0), 0x8000);
        due(first, "loads(200): the first", y -> y.loads(200), 1);
        HeldPart five = clampsTo(4, 5);
        five.load(1000, 0, 0);
        five.load(995, 0, 0);
        five.load(0, 0, 0);
        due(five, "loads(200)", y -> y.loads(200), 1);
        due(five, "loads(199)", y -> y.loads(199), 2);
        due(five, "loads(0)", y -> y.loads(0), 4);
        due(five, "loads(1)", y -> y.loads(1), 0);
        says("15: -1");
        int[] pulls = {LOW, -1, 201, HIGH};
        for (int p : pulls) {
            idleAnywhere("loads(" + p + ")", y -> y.loads(p), -1);
        }
    }

    private static long leastPull(HeldPart x, int... pqm) {
        for (int i = 0; i + 2 < pqm.length; i += 3) {
            x.load(pqm[i], pqm[i + 1], pqm[i + 2]);
        }
        return answer(x, HeldPart::pull);
    }

    private static void pull() {
        says("16: the least of 0 .. 200 with which the part is HELD against each of them");
        due(new HeldPart(), "pull() of nothing", x -> leastPull(x), 0);
        due(clampsTo(4, 5), "pull() without LOADS", x -> leastPull(x), 0);
        due(clampsTo(4, 5), "pull() of 0", x -> leastPull(x, 0, 0, 0), 0);
        due(clampsTo(4, 5), "pull() of 1", x -> leastPull(x, 5, 0, 0), 1);
        due(clampsTo(4, 1), "pull() of one CLAMP", x -> leastPull(x, 9, 0, 0), 9);
        due(clampsTo(0, 1), "pull() of one CLAMP", x -> leastPull(x, -200, 0, 0), 200);
        due(clampsTo(2, 1), "pull() of one CLAMP", x -> leastPull(x, 0, -200, 0), 200);
        due(pinned(20, 0, -1), "pull() of one CLAMP", x -> leastPull(x, -7, 0, -7), 7);
        due(pinned(20, 0, -1), "pull() of one CLAMP, turned off", x -> leastPull(x, -7, 0, -8), -4);
        due(clampsTo(4, 5), "pull() of 199", x -> leastPull(x, 995, 0, 0), 199);
        due(clampsTo(4, 5), "pull() of 200", x -> leastPull(x, 1000, 0, 0), 200);
        due(pinned(2, 0, 0, 26, 0, 0), "pull() of 200, onto a PIN", x -> leastPull(x, 0, 200, 0), 200);
        due(pinned(2, 0, 0, 26, 0, 0, 26, 0, 0), "pull() of 1 and a half", x -> leastPull(x, 0, 3, 0), 2);
        due(pinned(2, 0, 0, 26, 0, 0), "pull() of the last of three", x -> leastPull(x, 0, 3, 0, 0, 1, 0, 0, 7, 0), 7);
        due(pinned(2, 0, 0, 26, 0, 0), "pull() of the first of two", x -> leastPull(x, 0, 9, 0, 0, -9, 0), 9);
        due(pinned(2, 0, 0, 22, 0, 0), "pull() of 0 where more is too much", x -> leastPull(x, 0, -5, 0), 0);
        says("16: -4: there is none");
        due(clampsTo(4, 4), "pull() of 201", x -> leastPull(x, 804, 0, 0), -4);
        due(pinned(2, 0, 0, 26, 0, 0), "pull() of 201, onto a PIN", x -> leastPull(x, 0, 201, 0), -4);
        due(pinned(2, 0, 0, 26, 0, 0, 26, 0, 0), "pull() of 200 and a half", x -> leastPull(x, 0, 401, 0), -4);
        due(pinned(2, 0, 0, 26, 0, 0, 26, 0, 0), "pull() of 199 and a half", x -> leastPull(x, 0, 399, 0), 200);
        due(clampsTo(4, 5), "pull() between 199 and 200", x -> leastPull(x, 996, 0, 0), -4);
        due(clampsTo(4, 5), "pull() below 0", x -> leastPull(x, -5, 0, 0), -4);
        due(clampsTo(4, 5), "pull() of 1 and of 2", x -> leastPull(x, 5, 0, 0, 10, 0, 0), -4);
        due(new HeldPart(), "pull() without CONTACTS", x -> leastPull(x, 0, 0, 1), -4);
        due(pinned(2, 0, 0), "pull() without a CLAMP", x -> leastPull(x, 0, 1, 0), -4);
        HeldPart x = clampsTo(4, 5);
        x.load(996, 0, 0);
        idle(() -> {
            HeldPart y = clampsTo(4, 5);
            y.load(996, 0, 0);
            return y;
        }, "pull()", HeldPart::pull, -4);
        says("16: the least pull is found anew behind every change");
        due(x, "pull() of 996", HeldPart::pull, -4);
        x.unload();
        due(x, "pull() behind unload", HeldPart::pull, 0);
        x.load(20, 0, 0);
        due(x, "pull() behind load", HeldPart::pull, 4);
        x.undo();
        due(x, "pull() behind undo", HeldPart::pull, 5);
        x.contact(24, 0, 0, 0);
        due(x, "pull() behind contact", HeldPart::pull, 4);
        x.move(4, 0, 1);
        due(x, "pull() behind move", HeldPart::pull, -4);
    }

    // ---- promises 17, 18

    private static void worstThree() {
        says("17: IllegalArgumentException: no such CONTACTS (told as a + 10 b + 100 c)");
        int[] never = {LOW, -210, -1, 1000, 1210, 65746, HIGH};
        for (int t : never) {
            idleAnywhere("worst(0, 0, 0, " + t + ", ..)", x -> x.worst(0, 0, 0, t, false), ARGUMENT);
        }
        idle(HeldPart::new, "worst(0, 0, 0, 210, ..) of none", x -> x.worst(0, 0, 0, 210, true), ARGUMENT);
        int[] beyond = {5 + 10 + 200, 50 + 200, 500 + 10, 9 + 10 + 200, 90 + 200, 900 + 10};
        for (int t : beyond) {
            idle(HeldPartEdges::some, "worst(0, 0, 0, " + t + ", ..) of five", x -> x.worst(0, 0, 0, t, true),
                    ARGUMENT);
        }
        says("17: IllegalArgumentException: two alike");
        int[] alike = {0, 11, 111, 211, 121, 112, 110, 101, 4 + 40 + 400, 4 + 40, 200 + 20};
        for (int t : alike) {
            idle(HeldPartEdges::some, "worst(0, 0, 0, " + t + ", ..)", x -> x.worst(0, 0, 0, t, false), ARGUMENT);
        }
        says("17: IllegalArgumentException: a CLAMP");
        int[] clamped = {3 + 10 + 200, 30 + 200, 300 + 10, 3, 30 + 1, 300 + 30 + 3};
        for (int t : clamped) {
            idle(HeldPartEdges::some, "worst(0, 0, 0, " + t + ", ..)", x -> x.worst(0, 0, 0, t, false), ARGUMENT);
        }
        says("17: IllegalStateException: the rank isn't 3");
        int[] flat = {420, 240, 402, 24, 42, 204, 421};
        for (int t : flat) {
            idle(HeldPartEdges::some, "worst(0, 0, 0, " + t + ", ..)", x -> x.worst(0, 0, 0, t, false), STATE);
            idle(HeldPartEdges::some, "worst(0, 0, 0, " + t + ", true)", x -> x.worst(0, 0, 0, t, true), STATE);
        }
        due(pinned(2, 0, 0, 2, 0, 5, 6, 0, 9), "worst of rank 1", x -> x.worst(0, 0, 2, 210, false), STATE);
        due(pinned(2, 0, 0, 0, 0, 0, 1, 0, 0), "worst of rank 2, with its FEATURE through the place",
                x -> x.worst(0, 0, 2, 210, false), STATE);
        says("17: of several refusals that of an argument comes first");
        idle(HeldPartEdges::some, "worst(101, 0, 0, 420, ..)", x -> x.worst(101, 0, 0, 420, false), ARGUMENT);
        idle(HeldPartEdges::some, "worst(0, -101, 0, 420, ..)", x -> x.worst(0, -101, 0, 420, false), ARGUMENT);
        idle(HeldPartEdges::some, "worst(0, 0, 8, 420, ..)", x -> x.worst(0, 0, 8, 420, true), ARGUMENT);
        idle(HeldPartEdges::some, "worst(0, 0, -1, 420, ..)", x -> x.worst(0, 0, -1, 420, true), ARGUMENT);
    }

    /** The FEATURE is the first CONTACT told itself: WORST is that one's MISS alone, its number and 1. */
    private static void worstOfTen() {
        says("17: three CONTACTS (told as a + 10 b + 100 c), each of ten");
        for (int told = -12; told < 1020; told++) {
            int t = told;
            int a = Math.floorMod(t, 10);
            int b = Math.floorMod(t / 10, 10);
            int c = t / 100;
            boolean areThree = t >= 0 && t < 1000 && a != b && a != c && b != c;
            boolean areParallel = a % 4 == b % 4 && b % 4 == c % 4;
            long above = !areThree ? ARGUMENT : areParallel ? STATE : a + 1;
            long below = !areThree ? ARGUMENT : areParallel ? STATE : 1;
            HeldPart x = tenCrossing();
            int fx = crossingX(a);
            int fy = crossingY(a);
            due(x, "worst of CONTACT " + a + " by " + t, y -> y.worst(fx, fy, a % 8, t, false), above);
            due(x, "worst of CONTACT " + a + " by " + t + ", below", y -> y.worst(fx, fy, a % 8, t, true), below);
        }
    }

    /** No three go through a place; parallel are those whose numbers are alike by 4, so three of them are of rank 2. */
    private static HeldPart tenCrossing() {
        HeldPart x = new HeldPart();
        for (int i = 0; i < 10; i++) {
            x.contact(i % 8, crossingX(i), crossingY(i), 0);
            x.miss(i, i + 1);
        }
        return x;
    }

    private static int crossingX(int i) {
        return (i * i + i) % 61 - 30;
    }

    private static int crossingY(int i) {
        return (2 * i * i + 7 * i) % 53 - 26;
    }

    private static void worstFeature() {
        says("17: a FEATURE at (x, y) with a DIRECTION");
        int[] ends = {-100, 100};
        for (int e : ends) {
            due(some(), "worst(" + e + ", 0, 0, 210, true)", x -> x.worst(e, 0, 0, 210, true), 1);
            due(some(), "worst(0, " + e + ", 0, 210, true)", x -> x.worst(0, e, 0, 210, true), 1);
        }
        for (int direction = -3; direction <= 11; direction++) {
            int d = direction;
            due(some(), "worst(0, 5, " + d + ", 210, true)", x -> x.worst(0, 5, d, 210, true),
                    d >= 0 && d <= 7 ? 1 : ARGUMENT);
        }
        int[] beyond = {LOW, -101, 101, HIGH};
        for (int b : beyond) {
            idleAnywhere("worst(" + b + ", 0, 0, 210, ..)", x -> x.worst(b, 0, 0, 210, false), ARGUMENT);
            idleAnywhere("worst(0, " + b + ", 0, 210, ..)", x -> x.worst(0, b, 0, 210, false), ARGUMENT);
        }
        int[] directions = {LOW, -1, 8, HIGH};
        for (int d : directions) {
            idleAnywhere("worst(0, 0, " + d + ", 210, ..)", x -> x.worst(0, 0, d, 210, true), ARGUMENT);
        }
    }

    private static void fraction(HeldPart x, int fx, int fy, int direction, int three, long... aboveBelow) {
        String text = "worst(" + fx + ", " + fy + ", " + direction + ", " + three;
        due(x, text + ", false)", y -> y.worst(fx, fy, direction, three, false), aboveBelow[0]);
        due(x, text + ", true)", y -> y.worst(fx, fy, direction, three, true), aboveBelow[1]);
    }

    private static void worstFraction() {
        says("17: the number above (lower false), below the line, without a common divisor");
        fraction(some(), 20, 0, 2, 210, 8, 1);
        fraction(some(), 5, 0, 2, 210, 3, 1);
        fraction(some(), 1, 0, 2, 210, 19, 5);
        fraction(some(), -1, 0, 2, 210, 23, 5);
        fraction(some(), 1, 0, 6, 210, 19, 5);
        int[] orders = {210, 120, 201, 21, 102, 12};
        for (int three : orders) {
            fraction(some(), 1, 0, 2, three, 19, 5);
        }
        HeldPart most = pinned(2, 0, 0, 2, 1, 0, 0, 0, 0);
        most.miss(0, 50);
        most.miss(1, 50);
        most.miss(2, 50);
        fraction(most, 100, 100, 3, 210, 20000, 1);
        fraction(most, -100, -100, 3, 210, 20100, 1);
        HeldPart last = full();
        fraction(last, 17 * 9 % 60 - 30, 23 * 9 % 50 - 20, 3 * 9 % 8, 976, 45, 1);
        HeldPart widest = pinned(1, 100, -100, 3, 100, 100, 5, -100, 100);
        widest.miss(2, 1);
        fraction(widest, 0, 1, 0, 210, 1, 400);
        widest.miss(0, 50);
        widest.miss(1, 49);
        widest.miss(2, 47);
        fraction(widest, 0, 1, 0, 210, 19797, 400);
        says("17: (0 by 1)");
        fraction(some(), 5, 5, 0, 210, 0, 1);
        fraction(pinned(2, 0, 0, 2, 7, 0, 0, 0, 0), 100, 100, 3, 210, 0, 1);
        says("MISSES: WORST takes those that there are then");
        HeldPart x = some();
        x.miss(0, 0);
        fraction(x, 20, 0, 2, 210, 4, 1);
        x.move(1, 20, 0);
        fraction(x, 20, 0, 2, 210, 2, 1);
    }

    private static void bestRefusals() {
        says("18: -4: there are none");
        idle(HeldPart::new, "best(0, 0, 0) of none", x -> x.best(0, 0, 0), -4);
        idle(() -> pinned(2, 0, 0, 0, 0, 0), "best(0, 0, 0) of two", x -> x.best(0, 0, 0), -4);
        idle(() -> pinned(2, 0, 0, 2, 1, 0, 2, 2, 0), "best(0, 0, 0) of rank 2", x -> x.best(0, 0, 0), -4);
        idle(() -> pinned(2, 0, 0, 2, 1, 0, 20, 0, 0, 22, 9, 9), "best(0, 0, 0) of two and CLAMPS",
                x -> x.best(0, 0, 0), -4);
        idle(() -> clampsTo(3, 10), "best(0, 0, 0) of ten CLAMPS", x -> x.best(0, 0, 0), -4);
        says("18: -1, ahead of -4");
        int[] beyond = {LOW, -101, 101, HIGH};
        for (int b : beyond) {
            idleAnywhere("best(" + b + ", 0, 0)", x -> x.best(b, 0, 0), -1);
            idleAnywhere("best(0, " + b + ", 0)", x -> x.best(0, b, 0), -1);
        }
        int[] directions = {LOW, -1, 8, HIGH};
        for (int d : directions) {
            idleAnywhere("best(0, 0, " + d + ")", x -> x.best(0, 0, d), -1);
        }
        int[] ends = {-100, 100};
        for (int e : ends) {
            due(pinned(2, 0, 0, 2, 1, 0, 0, 0, 0), "best(" + e + ", " + -e + ", 7)", x -> x.best(e, -e, 7), 210);
            due(pinned(2, 0, 0, 2, 1, 0, 0, 0, 0), "best(" + e + ", " + e + ", 0)", x -> x.best(e, e, 0), 210);
        }
    }

    private static void bestOfLike() {
        says("18: those with the least WORST (a below b below c), the last three of ten too");
        HeldPart ten = pinned(2, 0, 0, 2, 0, 0, 2, 0, 0, 2, 0, 0, 2, 0, 0, 2, 0, 0, 2, 0, 0, 2, 0, 0,
                2, 10, 0, 0, 0, 5);
        due(ten, "best(0, 0, 2) without MISSES", x -> x.best(0, 0, 2), 980);
        for (int contact = 0; contact < 7; contact++) {
            ten.miss(contact, 50);
        }
        ten.miss(7, 49);
        due(ten, "best(0, 0, 2) of the least MISS", x -> x.best(0, 0, 2), 987);
        ten.miss(7, 50);
        due(ten, "best(0, 0, 2) of like ones", x -> x.best(0, 0, 2), 980);
        says("18: (no CLAMPS)");
        due(pinned(20, 0, 5, 2, 0, 0, 2, 10, 0, 0, 0, 5), "best(0, 0, 2) behind a CLAMP", x -> x.best(0, 0, 2), 321);
        due(pinned(2, 0, 0, 20, 0, 5, 2, 10, 0, 0, 0, 5), "best(0, 0, 2) about a CLAMP", x -> x.best(0, 0, 2), 320);
        due(pinned(2, 0, 0, 2, 10, 0, 20, 0, 5, 0, 0, 5), "best(0, 0, 2) about a CLAMP", x -> x.best(0, 0, 2), 310);
        due(pinned(2, 0, 0, 2, 10, 0, 0, 0, 5, 20, 0, 5), "best(0, 0, 2) ahead of a CLAMP", x -> x.best(0, 0, 2), 210);
        says("THE BEST THREE: of like ones the least by numbers (the first, then the second, then the third)");
        HeldPart x = pinned(1, 50, 0, 2, 0, 0, 2, 10, 0, 0, 0, 0, 1, 3, 0);
        x.miss(0, 50);
        due(x, "the first ahead of the third: 0 1 4, not 1 2 3", y -> y.best(3, 0, 1), 410);
        x.miss(0, 0);
        x.miss(1, 50);
        due(x, "the second ahead of the third: 0 1 4, not 0 2 3", y -> y.best(3, 0, 1), 410);
        x.miss(1, 0);
        due(x, "all are 0: 0 1 2", y -> y.best(3, 0, 1), 210);
        x.miss(0, 50);
        x.miss(4, 1);
        due(x, "one is a little more: 1 2 3, not 0 1 4", y -> y.best(3, 0, 1), 321);
    }

    // ---- promises 19 to 22

    private static void step() {
        says("19: STEPS 0 .. 11 as they come; -2: there are 12");
        HeldPart x = new HeldPart();
        for (int i = 0; i < 12; i++) {
            due(x, "step " + i, y -> y.step(63, 0), i);
        }
        due(x, "step 12", y -> y.step(63, 0), -2);
        idle(HeldPartEdges::full, "step(1, 0) of twelve", y -> y.step(1, 0), -2);
        idle(HeldPartEdges::full, "step(63, 4095) of twelve", y -> y.step(63, 4095), -2);
        says("19: -1 (SIDES 1 .. 63)");
        for (int sides = -70; sides <= 200; sides++) {
            int s = sides;
            due(new HeldPart(), "step(" + s + ", 0)", y -> y.step(s, 0), s >= 1 && s <= 63 ? 0 : -1);
        }
        int[] none = {LOW, -1, 0, 64, 65, HIGH};
        for (int s : none) {
            idleAnywhere("step(" + s + ", 0)", y -> y.step(s, 0), -1);
        }
        says("19: -1 (ahead: bits of earlier STEPS)");
        for (int steps = 0; steps < 12; steps++) {
            HeldPart row = new HeldPart();
            for (int i = 0; i < steps; i++) {
                row.step(1, 0);
            }
            int own = 1 << steps;
            due(row, "step(1, -1) behind " + steps, y -> y.step(1, -1), -1);
            due(row, "step(1, itself) behind " + steps, y -> y.step(1, own), -1);
            due(row, "step(1, a later one) behind " + steps, y -> y.step(1, 2 * own), -1);
            due(row, "step(1, itself and all ahead) behind " + steps, y -> y.step(1, 2 * own - 1), -1);
            int all = own - 1;
            due(row, "step(1, all ahead) behind " + steps, y -> y.step(1, all), steps);
        }
        idle(HeldPart::new, "step(1, 1) of none", y -> y.step(1, 1), -1);
        idle(HeldPartEdges::some, "step(1, 8) of three", y -> y.step(1, 8), -1);
        int[] ahead = {LOW, -1, 4096, 1 << 30, HIGH};
        for (int a : ahead) {
            idleAnywhere("step(1, " + a + "): -1 ahead of -2 too", y -> y.step(1, a), -1);
        }
    }

    private static void rowOf(HeldPart x, int[] sides, int[] done) {
        due(x, "setups()", HeldPart::setups, sides.length);
        for (int i = 0; i < sides.length; i++) {
            int at = i;
            due(x, "setup(" + at + ", 0)", y -> y.setup(at, 0), sides[at]);
            due(x, "setup(" + at + ", 1)", y -> y.setup(at, 1), done[at]);
        }
        due(x, "setup(" + sides.length + ", 0)", y -> y.setup(sides.length, 0), -3);
        due(x, "setup(" + sides.length + ", 1)", y -> y.setup(sides.length, 1), -3);
    }

    private static HeldPart steps(int... sidesAhead) {
        HeldPart x = new HeldPart();
        for (int i = 0; i + 1 < sidesAhead.length; i += 2) {
            x.step(sidesAhead[i], sidesAhead[i + 1]);
        }
        return x;
    }

    private static void setups() {
        says("20: the least number of SET-UPS by which all STEPS are done");
        due(new HeldPart(), "setups() without STEPS", HeldPart::setups, 0);
        HeldPart x = new HeldPart();
        for (int i = 0; i < 12; i++) {
            int before = i;
            due(x, "setups() of a chain of " + before, HeldPart::setups, before);
            x.step(1 << i % 6, i == 0 ? 0 : 1 << i - 1);
        }
        due(x, "setups() of a chain of 12", HeldPart::setups, 12);
        due(steps(63, 0, 63, 1, 63, 3, 63, 7, 63, 15, 63, 31, 63, 63, 63, 127, 63, 255, 63, 511, 63, 1023, 63, 2047),
                "setups() of twelve in one", HeldPart::setups, 1);
        says("in each all STEPS are done that can be done from that SIDE and aren't yet, as long as one can");
        rowOf(steps(32, 0, 32, 1, 32, 2), new int[] {5}, new int[] {7});
        rowOf(steps(1, 0, 2, 1, 1, 2), new int[] {0, 1, 0}, new int[] {1, 2, 4});
        rowOf(steps(1, 0, 3, 1, 2, 0), new int[] {0, 1}, new int[] {3, 4});
        says("THE FEWEST: a SIDE that does a STEP sooner isn't always of use");
        rowOf(steps(3, 0, 2, 0), new int[] {1}, new int[] {3});
        rowOf(steps(1, 0, 6, 0, 4, 1, 9, 2), new int[] {0, 2, 0}, new int[] {1, 6, 8});
        rowOf(steps(1, 0, 6, 0, 4, 1, 8, 2), new int[] {0, 2, 3}, new int[] {1, 6, 8});
        rowOf(steps(33, 0, 32, 0, 16, 3), new int[] {5, 4}, new int[] {3, 4});
        HeldPart back = new HeldPart();
        int[] sides = new int[12];
        int[] done = new int[12];
        for (int i = 0; i < 12; i++) {
            sides[i] = (11 - i) % 6;
            done[i] = 1 << i;
            back.step(1 << sides[i], i == 0 ? 0 : done[i - 1]);
        }
        rowOf(back, sides, done);
        says("of several rows the least (the first SIDE, then the second, ..)");
        rowOf(steps(63, 0), new int[] {0}, new int[] {1});
        rowOf(steps(62, 0), new int[] {1}, new int[] {1});
        rowOf(steps(32, 0), new int[] {5}, new int[] {1});
        rowOf(steps(48, 0, 6, 0), new int[] {1, 4}, new int[] {2, 1});
        rowOf(steps(2, 0, 1, 0), new int[] {0, 1}, new int[] {2, 1});
        rowOf(steps(2, 0, 1, 1), new int[] {1, 0}, new int[] {1, 2});
        rowOf(steps(12, 0, 20, 0, 9, 0), new int[] {0, 2}, new int[] {4, 3});
    }

    /** The first row, by its length and then by its SIDES, of which told says that all is done. */
    private static void fewestByTold() {
        says("THE FEWEST: the least number of SET-UPS by which all STEPS are done; of several rows the least");
        long seed = 12345;
        for (int turn = 0; turn < 150; turn++) {
            int size = 1 + turn % 12;
            int[] row = new int[2 * size];
            for (int i = 0; i < size; i++) {
                seed = (seed * 1103515245 + 12345) % 2147483648L;
                int bits = (int) (seed >> 8);
                row[2 * i] = 1 << bits % 6 | 1 << bits / 6 % 6;
                row[2 * i + 1] = bits / 36 % (1 << i) & bits / 1000;
            }
            fewestByTold(row);
        }
    }

    private static void fewestByTold(int[] row) {
        HeldPart asked = steps(row);
        int rows = 1;
        for (int n = 1; n <= 4; n++) {
            rows *= 6;
            for (int i = 0; i < rows; i++) {
                if (i % 400 == 0) {
                    asked = steps(row);
                }
                int told = backwards(i, n);
                if (asked.told(told, n) == n) {
                    HeldPart x = steps(row);
                    due(x, "setups() of " + Arrays.toString(row), HeldPart::setups, n);
                    for (int k = 0, rest = told; k < n; k++, rest /= 6) {
                        int at = k;
                        due(x, "setup(" + at + ", 0) of " + Arrays.toString(row), y -> y.setup(at, 0), rest % 6);
                    }
                    return;
                }
            }
        }
        HeldPart x = steps(row);
        if (x.setups() <= 4) {
            tell("setups() of " + Arrays.toString(row) + " answered " + x.setups() + ", due are more than 4");
        }
    }

    /** The digits the other way round, so that rows come with the first SIDE as the highest. */
    private static int backwards(int row, int n) {
        int told = 0;
        int rest = row;
        for (int i = 0; i < n; i++) {
            told = 6 * told + rest % 6;
            rest /= 6;
        }
        return told;
    }

    private static void setup() {
        says("21: what = 1: the STEPS that are done in it, as bits");
        HeldPart x = new HeldPart();
        chain(x, 12);
        for (int i = 0; i < 12; i++) {
            int at = i;
            due(x, "setup(" + at + ", 0) of a chain", y -> y.setup(at, 0), at % 6);
            due(x, "setup(" + at + ", 1) of a chain", y -> y.setup(at, 1), 1 << at);
        }
        says("21: -3: there are not so many");
        int[] beyond = {12, 13, 4096, HIGH};
        for (int i : beyond) {
            idleAnywhere("setup(" + i + ", 0)", y -> y.setup(i, 0), -3);
            idleAnywhere("setup(" + i + ", 1)", y -> y.setup(i, 1), -3);
        }
        idle(HeldPart::new, "setup(0, 0) without STEPS", y -> y.setup(0, 0), -3);
        idle(HeldPart::new, "setup(0, 1) without STEPS", y -> y.setup(0, 1), -3);
        idle(HeldPartEdges::some, "setup(3, 0) of three", y -> y.setup(3, 0), -3);
        says("21: -1, ahead of -3");
        int[] below = {LOW, -1};
        for (int i : below) {
            idleAnywhere("setup(" + i + ", 0)", y -> y.setup(i, 0), -1);
            idleAnywhere("setup(" + i + ", 1)", y -> y.setup(i, 1), -1);
        }
        int[] whats = {LOW, -1, 2, HIGH};
        for (int what : whats) {
            idleAnywhere("setup(0, " + what + ")", y -> y.setup(0, what), -1);
            idleAnywhere("setup(12, " + what + ")", y -> y.setup(12, what), -1);
        }
        says("21: THE FEWEST is that of the STEPS there are then");
        HeldPart grows = steps(2, 0);
        due(grows, "setup(0, 0)", y -> y.setup(0, 0), 1);
        due(grows, "step(1, 0)", y -> y.step(1, 0), 1);
        due(grows, "setup(0, 0) behind a STEP", y -> y.setup(0, 0), 0);
        due(grows, "setup(1, 1) behind a STEP", y -> y.setup(1, 1), 1);
    }

    private static void told() {
        says("22: -1 (more digits, too)");
        int power = 1;
        for (int n = 1; n <= 10; n++) {
            power *= 6;
            int first = power;
            int digits = n;
            due(steps(32, 0, 32, 0), "told(" + (first - 1) + ", " + n + ")", y -> y.told(first - 1, digits), 1);
            due(steps(1, 0, 2, 0), "told(" + (first - 1) + ", " + n + ")", y -> y.told(first - 1, digits), -4);
            idleAnywhere("told(" + first + ", " + n + ")", y -> y.told(first, digits), -1);
            idleAnywhere("told(HIGH, " + n + ")", y -> y.told(HIGH, digits), -1);
            idleAnywhere("told(-1, " + n + ")", y -> y.told(-1, digits), -1);
            idleAnywhere("told(LOW, " + n + ")", y -> y.told(LOW, digits), -1);
            due(steps(2, 0), "told(6 * 6 * 6, " + n + ")", y -> y.told(216, digits), digits >= 4 ? 4 : -1);
        }
        says("22: n 1 .. 10");
        int[] none = {LOW, -1, 0, 11, 12, HIGH};
        for (int n : none) {
            idleAnywhere("told(0, " + n + ")", y -> y.told(0, n), -1);
            idleAnywhere("told(1, " + n + ")", y -> y.told(1, n), -1);
        }
        says("22: digits to the base 6, the first the lowest");
        due(steps(2, 0, 32, 1), "told(1 + 6 * 5, 2)", y -> y.told(31, 2), 2);
        due(steps(2, 0, 32, 1), "told(5 + 6 * 1, 2)", y -> y.told(11, 2), -4);
        says("22: How many SET-UPS .. takes till all is done");
        due(steps(2, 0, 32, 1), "told(1 + 6 * 5, 10): the rest isn't wanted", y -> y.told(31, 10), 2);
        due(steps(2, 0, 32, 1), "told(0 + 6 * 1 + 36 * 5, 3): one does nothing", y -> y.told(186, 3), 3);
        due(steps(1, 0), "told(0, 10)", y -> y.told(0, 10), 1);
        due(new HeldPart(), "told(0, 1) without STEPS", y -> y.told(0, 1), 0);
        due(new HeldPart(), "told(60466175, 10) without STEPS", y -> y.told(60466175, 10), 0);
        HeldPart ten = new HeldPart();
        chain(ten, 10);
        int row = 0;
        for (int i = 9; i >= 0; i--) {
            row = 6 * row + i % 6;
        }
        int sides = row;
        due(ten, "told of a chain of ten", y -> y.told(sides, 10), 10);
        says("22: -4: not all is done");
        idle(() -> steps(2, 0, 1, 0), "told(1, 1): a row of one", y -> y.told(1, 1), -4);
        due(steps(2, 0, 1, 0), "told(1, 2): a row of two, the second is 0", y -> y.told(1, 2), 2);
        ten.step(16, 512);
        due(ten, "told of a chain of eleven", y -> y.told(sides, 10), -4);
        idle(() -> steps(2, 0, 32, 1), "told(1, 1)", y -> y.told(1, 1), -4);
        idle(() -> steps(2, 0, 32, 1), "told(1, 10)", y -> y.told(1, 10), -4);
        says("22: of several refusals -1 comes ahead of -4");
        idle(() -> steps(2, 0, 32, 1), "told(36, 2)", y -> y.told(36, 2), -1);
        idle(() -> steps(2, 0, 32, 1), "told(0, 11)", y -> y.told(0, 11), -1);
    }

    // ---- promises 23 to 27

    private static void point() {
        says("23: points (-200 .. 200)");
        for (int at = -205; at <= 205; at++) {
            int f = at;
            long want = f >= -200 && f <= 200 ? 1 : -1;
            due(new HeldPart(), "point(" + f + ", 0)", x -> x.point(f, 0), want);
            due(new HeldPart(), "point(0, " + f + ")", x -> x.point(0, f), want);
        }
        int[] far = {LOW, -201, 201, HIGH};
        for (int f : far) {
            idleAnywhere("point(" + f + ", 0): -1 ahead of -2 too", x -> x.point(f, 0), -1);
            idleAnywhere("point(0, " + f + "): -1 ahead of -2 too", x -> x.point(0, f), -1);
        }
        says("23: how many it has; -2: it has 40");
        HeldPart x = new HeldPart();
        for (int i = 1; i <= 40; i++) {
            due(x, "point " + i, y -> y.point(3, 3), i);
        }
        due(x, "point 41", y -> y.point(3, 3), -2);
        due(x, "tool(1): the PATH goes", y -> y.tool(1), 40);
        due(x, "point behind it", y -> y.point(3, 3), 1);
        idle(HeldPartEdges::full, "point(0, 0) of forty", y -> y.point(0, 0), -2);
    }

    private static void tool() {
        says("24: a radius 0 .. 20");
        for (int radius = -25; radius <= 45; radius++) {
            int r = radius;
            HeldPart x = onPath(7, 1, 1, 2, 2);
            boolean isRight = r >= 0 && r <= 20;
            due(x, "tool(" + r + ")", y -> y.tool(r), isRight ? 2 : -1);
            due(x, "count(4) behind tool(" + r + ")", y -> y.count(4), isRight ? r : 7);
            due(x, "count(3) behind tool(" + r + ")", y -> y.count(3), isRight ? 0 : 2);
        }
        int[] wrongs = {LOW, -1, 21, HIGH};
        for (int r : wrongs) {
            idleAnywhere("tool(" + r + ")", y -> y.tool(r), -1);
        }
        says("24: THE PATH goes: how many points there were");
        due(new HeldPart(), "tool(3) without a PATH", y -> y.tool(3), 0);
        due(full(), "tool(3) of forty", y -> y.tool(3), 40);
        HeldPart x = some();
        due(x, "tool(2): the same radius", y -> y.tool(2), 3);
        due(x, "met(): no PATH", HeldPart::met, -3);
        due(x, "tool(20) again", y -> y.tool(20), 0);
    }

    private static HeldPart disc(int body) {
        HeldPart x = new HeldPart();
        x.contact(2, 0, 0, body);
        return x;
    }

    private static void pathMeets(int body, int radius, long want, int... xy) {
        HeldPart x = disc(body);
        pathOf(x, radius, xy);
        due(x, "meets(0) of a PATH of " + xy.length / 2, y -> y.meets(0), want);
        due(x, "met() of a PATH of " + xy.length / 2, HeldPart::met, want >= 0 ? 1 : 0);
    }

    private static void nearer() {
        says("It MEETS a CONTACT, if a line of THE PATH comes nearer to its place than both radii together");
        pathMeets(20, 20, -2, -200, 40, 200, 40);
        pathMeets(20, 20, 0, -200, 39, 200, 39);
        pathMeets(20, 20, 0, -200, 40, 200, 39);
        pathMeets(20, 20, -2, 40, 200, 40, -200);
        pathMeets(20, 20, -2, 200, 50, -200, 50);
        pathMeets(20, 20, -2, 0, 50, 200, -100);
        pathMeets(20, 20, 0, 0, 50, 200, -101);
        pathMeets(20, 20, 0, -200, -200, 200, 200);
        pathMeets(0, 1, 0, -200, -200, 200, 199);
        pathMeets(0, 0, -2, -200, -200, 200, 200);
        pathMeets(0, 0, -2, 0, 0, 0, 0);
        pathMeets(1, 0, 0, 0, 0, 0, 0);
        pathMeets(0, 1, 0, -5, 0, 5, 0);
        says("a line comes nearer between its points than at them");
        pathMeets(3, 2, 0, 3, 4, 4, 3);
        pathMeets(3, 2, 0, 4, 3, 3, 4);
        pathMeets(20, 20, 0, 24, 32, 32, 24);
        pathMeets(20, 20, -2, 24, 32, 24, 33);
        says("a line ends at its points");
        pathMeets(20, 20, -2, 24, 32, 200, 200);
        pathMeets(20, 20, -2, 200, 200, 24, 32);
        pathMeets(20, 20, 0, 24, 31, 200, 200);
        pathMeets(20, 20, 0, 200, 200, 24, 31);
        pathMeets(3, 2, -2, 5, 0, 200, 0);
        pathMeets(3, 2, 0, 4, 0, 200, 0);
        pathMeets(3, 2, -2, -200, 0, -5, 0);
        pathMeets(3, 2, 0, -200, 0, -4, 0);
        pathMeets(3, 2, -2, 5, -3, 5, 200);
        says("(a path of one point: that point)");
        pathMeets(20, 20, -2, 40, 0);
        pathMeets(20, 20, -2, 0, -40);
        pathMeets(20, 20, -2, -24, 32);
        pathMeets(20, 20, 0, 39, 0);
        pathMeets(20, 20, 0, -24, 31);
        pathMeets(0, 0, -2, 0, 0);
        pathMeets(0, 1, 0, 0, 0);
        pathMeets(1, 0, -2, 1, 0);
        says("a line between two points that are one");
        pathMeets(20, 20, -2, 24, -32, 24, -32);
        pathMeets(20, 20, 0, 24, -31, 24, -31);
    }

    private static void meets() {
        says("25: The first line of THE PATH (from 0; of one point 0)");
        pathMeets(3, 2, 0, 0, 0);
        pathMeets(3, 2, 0, 9, 0, 0, 0, -9, 0);
        pathMeets(3, 2, 1, 9, 0, 5, 0, 0, 0, -9, 0, 0, 0);
        HeldPart last = disc(1);
        for (int i = 0; i < 39; i++) {
            last.point(200, 200);
        }
        due(last, "meets(0) of 39 points afar", x -> x.meets(0), -2);
        last.point(0, 0);
        due(last, "meets(0): the last line there can be", x -> x.meets(0), 38);
        due(last, "met()", HeldPart::met, 1);
        says("25: -2: none");
        idle(() -> {
            HeldPart x = disc(3);
            x.point(3, 0);
            return x;
        }, "meets(0)", x -> x.meets(0), -2);
        says("25: -3: there is no PATH");
        idle(() -> disc(20), "meets(0)", x -> x.meets(0), -3);
        idle(HeldPartEdges::tenContacts, "meets(9)", x -> x.meets(9), -3);
        HeldPart gone = some();
        gone.tool(2);
        due(gone, "meets(0) behind tool", x -> x.meets(0), -3);
        says("25: -1, ahead of -3");
        idle(HeldPart::new, "meets(0) of none", x -> x.meets(0), -1);
        noSuchContact("meets(c)", c -> x -> x.meets(c), -1);
        idle(() -> disc(20), "meets(1) of one, without a PATH", x -> x.meets(1), -1);
        idle(() -> onPath(20, 0, 0), "meets(0) of none, with a PATH", x -> x.meets(0), -1);
    }

    private static void met() {
        says("26: CONTACTS that it MEETS, as bits");
        due(onPath(20, 0, 0), "met() of no CONTACTS", HeldPart::met, 0);
        HeldPart all = clampsTo(0, 10);
        pathOf(all, 1, 0, 0);
        due(all, "met() of ten", HeldPart::met, 1023);
        all.move(9, 1, 0);
        due(all, "met() of nine", HeldPart::met, 511);
        all.tool(1);
        all.point(1, 0);
        due(all, "met() of the last", HeldPart::met, 512);
        all.undo();
        due(all, "met() of none", HeldPart::met, 0);
        says("26: -3");
        idle(HeldPart::new, "met() of a new object", HeldPart::met, -3);
        idle(HeldPartEdges::tenContacts, "met() without a PATH", HeldPart::met, -3);
    }

    private static void count() {
        says("27: 0 CONTACTS, 1 LOADS, 2 STEPS, 3 points, 4 radius");
        long[] ofSome = {5, 3, 3, 3, 2};
        long[] ofFull = {10, 16, 12, 40, 6};
        for (int what = 0; what < 5; what++) {
            int w = what;
            due(new HeldPart(), "count(" + w + ")", x -> x.count(w), 0);
            due(some(), "count(" + w + ") of some", x -> x.count(w), ofSome[w]);
            due(full(), "count(" + w + ") of a full object", x -> x.count(w), ofFull[w]);
        }
        due(onPath(20), "count(4) of the widest", x -> x.count(4), 20);
        says("27: -1 for others");
        int[] others = {LOW, -2, -1, 5, 6, 256, HIGH};
        for (int what : others) {
            idleAnywhere("count(" + what + ")", x -> x.count(what), -1);
        }
    }

    // ---- promises 28, 29

    private interface OfShelf {
        Call call(int shelf);
    }

    private static void noSuchShelf(String text, OfShelf of, long want) {
        int[] never = {LOW, -8, -1, 8, 9, 256, HIGH};
        for (int d : never) {
            idleAnywhere(text + " with d = " + d, of.call(d), want);
        }
    }

    private static void length(HeldPart x, int d, int want) {
        if (want > 0) {
            int last = want - 1;
            if (answer(x, y -> y.element(d, last)) == STATE) {
                tell("SHELF " + d + " has no element " + last);
            }
        }
        due(x, "element(" + d + ", " + want + "): just beyond", y -> y.element(d, want), STATE);
        due(x, "element(" + d + ", -1)", y -> y.element(d, -1), STATE);
    }

    private static void keepWhat() {
        says("28: what = 0 nothing; 1 CONTACT k; 3 a ROW of ints; 4 a ROW of bytes: 0");
        for (int what = -3; what <= 9; what++) {
            int w = what;
            boolean isThere = w == 0 || w == 1 || w == 3 || w == 4;
            for (int shelf = 0; shelf < 8; shelf++) {
                int d = shelf;
                due(some(), "keep(" + d + ", " + w + ", 0)", x -> x.keep(d, w, 0), isThere ? 0 : -1);
            }
        }
        int[] none = {LOW, -1, 2, 5, HIGH};
        for (int what : none) {
            for (int shelf = 0; shelf < 8; shelf++) {
                int d = shelf;
                idle(HeldPartEdges::some, "keep(" + d + ", " + what + ", 0)", x -> x.keep(d, what, 0), -1);
            }
            idleAnywhere("keep(7, " + what + ", 0)", x -> x.keep(7, what, 0), -1);
        }
        says("28: -1: no such SHELF (0 .. 7)");
        for (int what = 0; what < 5; what++) {
            int w = what;
            noSuchShelf("keep(d, " + w + ", 0)", d -> x -> x.keep(d, w, 0), -1);
        }
        says("28: -1: no such CONTACT k");
        idle(HeldPart::new, "keep(0, 1, 0) of none", x -> x.keep(0, 1, 0), -1);
        for (int shelf = 0; shelf < 8; shelf++) {
            int d = shelf;
            noSuchContact("keep(" + d + ", 1, c)", c -> x -> x.keep(d, 1, c), -1);
        }
        due(full(), "keep(7, 1, 9): the last there can be", x -> x.keep(7, 1, 9), 0);
    }

    private static void keepRows() {
        says("28: a ROW of ints: WRENCHES of all DIRECTIONS, one behind the other");
        HeldPart none = new HeldPart();
        due(none, "keep(7, 3, 0) of none", x -> x.keep(7, 3, 0), 0);
        length(none, 7, 0);
        due(none, "weight(7): a ROW lies there", x -> x.weight(7), -12);
        HeldPart ten = tenContacts();
        due(ten, "keep(0, 3, -1) of ten", x -> x.keep(0, 3, -1), 0);
        length(ten, 0, 30);
        for (int i = 0; i < 30; i++) {
            int at = i;
            long wrench = ten.wrench(i / 3, -1, i % 3);
            due(ten, "element(0, " + at + ")", x -> x.element(0, at), wrench);
        }
        HeldPart corner = pinned(7, 100, 100);
        corner.keep(3, 3, 0);
        due(corner, "element(3, 2): below what a byte holds", x -> x.element(3, 2), -200);
        says("28: a ROW of bytes: SIDES of THE FEWEST");
        due(none, "keep(6, 4, 0) without STEPS", x -> x.keep(6, 4, 0), 0);
        length(none, 6, 0);
        due(none, "weight(6): a ROW lies there", x -> x.weight(6), -12);
        due(none, "copy(6, 0, 7, 0, 0): it is of bytes", x -> x.copy(6, 0, 7, 0, 0), -12);
        HeldPart twelve = new HeldPart();
        chain(twelve, 12);
        due(twelve, "keep(1, 4, -1) of twelve", x -> x.keep(1, 4, -1), 0);
        length(twelve, 1, 12);
        for (int i = 0; i < 12; i++) {
            int at = i;
            due(twelve, "element(1, " + at + ")", x -> x.element(1, at), at % 6);
        }
        HeldPart one = steps(32, 0);
        one.keep(1, 4, 0);
        due(one, "element(1, 0) of one", x -> x.element(1, 0), 5);
        length(one, 1, 1);
        says("28: (as it is then)");
        HeldPart x = some();
        x.move(0, 50, 50);
        x.undo();
        x.step(63, 0);
        x.miss(1, 50);
        due(x, "element(2, 2) behind move", y -> y.element(2, 2), 0);
        length(x, 2, 15);
        length(x, 3, 3);
        due(x, "weight(1) behind undo", y -> y.weight(1), 2 * (10 + 4 + 7 + 100));
        due(x, "toss(1) behind undo", y -> y.toss(1), 4);
    }

    private static void keepAgain() {
        says("28: SHELF d gets: what was there goes, and no other SHELF changes");
        for (int shelf = 0; shelf < 8; shelf++) {
            int d = shelf;
            HeldPart x = some();
            due(x, "keep(" + d + ", 0, -1): k is free", y -> y.keep(d, 0, -1), 0);
            due(x, "weight(" + d + ")", y -> y.weight(d), -11);
            due(x, "keep(" + d + ", 1, 4)", y -> y.keep(d, 1, 4), 0);
            due(x, "weight(" + d + ")", y -> y.weight(d), 242);
            due(x, "element(" + d + ", 0)", y -> y.element(d, 0), STATE);
            due(x, "keep(" + d + ", 3, HIGH)", y -> y.keep(d, 3, HIGH), 0);
            due(x, "weight(" + d + ")", y -> y.weight(d), -12);
            length(x, d, 15);
            due(x, "keep(" + d + ", 4, LOW)", y -> y.keep(d, 4, LOW), 0);
            length(x, d, 3);
            due(x, "make(" + d + ", 3, 2)", y -> y.make(d, 3, 2), 0);
            length(x, d, 2);
            due(x, "keep(" + d + ", 1, 3)", y -> y.keep(d, 1, 3), 0);
            due(x, "weight(" + d + ")", y -> y.weight(d), 1013);
            due(x, "element(" + d + ", 0)", y -> y.element(d, 0), STATE);
            due(x, "copy(" + d + ", ..)", y -> y.copy(d, 0, d, 0, 0), -12);
            for (int other = 0; other < 8; other++) {
                int e = other;
                if (e != d) {
                    due(x, "weight(" + e + ") of another", y -> y.weight(e), some().weight(e));
                    due(x, "element(" + e + ", 1) of another", y -> y.element(e, 1),
                            answer(some(), y -> y.element(e, 1)));
                }
            }
        }
    }

    private static void make() {
        says("29: a ROW of n ints, or bytes, 0 (what 3, 4; n up to 60): 0");
        for (int what = 3; what <= 4; what++) {
            int w = what;
            int[] sizes = {0, 1, 2, 59, 60};
            for (int n : sizes) {
                for (int shelf = 0; shelf < 8; shelf++) {
                    int d = shelf;
                    HeldPart x = full();
                    due(x, "make(" + d + ", " + w + ", " + n + ")", y -> y.make(d, w, n), 0);
                    length(x, d, n);
                    for (int i = 0; i < n; i++) {
                        int at = i;
                        due(x, "element(" + d + ", " + at + ")", y -> y.element(d, at), 0);
                    }
                }
            }
            int[] more = {61, 62, 120, HIGH};
            for (int n : more) {
                idleAnywhere("make(2, " + w + ", " + n + ")", x -> x.make(2, w, n), -1);
                idleAnywhere("make(7, " + w + ", " + n + ")", x -> x.make(7, w, n), -1);
            }
        }
        int[] whats = {LOW, -1, 0, 1, 2, 5, HIGH};
        for (int what : whats) {
            idleAnywhere("make(2, " + what + ", 1)", x -> x.make(2, what, 1), -1);
            idleAnywhere("make(7, " + what + ", 0)", x -> x.make(7, what, 0), -1);
        }
        says("29: -14: n is below 0");
        int[] below = {LOW, -60, -1};
        for (int n : below) {
            idleAnywhere("make(2, 3, " + n + ")", x -> x.make(2, 3, n), -14);
            idleAnywhere("make(7, 4, " + n + ")", x -> x.make(7, 4, n), -14);
        }
        says("29: of several refusals -1 comes ahead of -14");
        for (int what : whats) {
            idleAnywhere("make(2, " + what + ", -1)", x -> x.make(2, what, -1), -1);
        }
        noSuchShelf("make(d, 3, -1)", d -> x -> x.make(d, 3, -1), -1);
        noSuchShelf("make(d, 4, 1)", d -> x -> x.make(d, 4, 1), -1);
    }

    // ---- promises 30, 31

    private static void element() {
        says("30: IllegalArgumentException: no such SHELF");
        noSuchShelf("element(d, 0)", d -> x -> x.element(d, 0), ARGUMENT);
        says("30: IllegalStateException: nothing is held");
        for (int shelf = 0; shelf < 8; shelf++) {
            int d = shelf;
            idle(HeldPart::new, "element(" + d + ", 0)", x -> x.element(d, 0), STATE);
        }
        idle(HeldPartEdges::some, "element(7, 0)", x -> x.element(7, 0), STATE);
        says("30: IllegalStateException: it is no ROW");
        int[] contacts = {0, 1, 6};
        for (int d : contacts) {
            idle(HeldPartEdges::some, "element(" + d + ", 0)", x -> x.element(d, 0), STATE);
        }
        says("30: IllegalStateException: has no such place (from 0)");
        int[] lengths = {0, 0, 15, 3, 5, 4, 0, 0};
        for (int d = 2; d < 6; d++) {
            int shelf = d;
            int[] beyond = {LOW, -1, lengths[d], lengths[d] + 1, 60, HIGH};
            for (int i : beyond) {
                idle(HeldPartEdges::some, "element(" + d + ", " + i + ")", x -> x.element(shelf, i), STATE);
            }
            length(some(), d, lengths[d]);
        }
        due(some(), "element(2, 0)", x -> x.element(2, 0), 0);
        due(some(), "element(2, 14)", x -> x.element(2, 14), 5);
        due(some(), "element(3, 0)", x -> x.element(3, 0), 0);
        due(some(), "element(3, 2)", x -> x.element(3, 2), 5);
        says("30: of several refusals that of an argument comes first");
        noSuchShelf("element(d, -1)", d -> x -> x.element(d, -1), ARGUMENT);
    }

    private static void copyRefusals() {
        says("31: -1: no such SHELF, of either, ahead of all others");
        noSuchShelf("copy(d, 0, 2, 0, 1)", d -> x -> x.copy(d, 0, 2, 0, 1), -1);
        noSuchShelf("copy(2, 0, d, 0, 1)", d -> x -> x.copy(2, 0, d, 0, 1), -1);
        noSuchShelf("copy(d, -1, 7, -1, -1)", d -> x -> x.copy(d, -1, 7, -1, -1), -1);
        noSuchShelf("copy(0, -1, d, -1, -1)", d -> x -> x.copy(0, -1, d, -1, -1), -1);
        noSuchShelf("copy(d, 0, d, 0, 0)", d -> x -> x.copy(d, 0, d, 0, 0), -1);
        says("31: -11: of either, ahead of -12 and -13");
        for (int shelf = 0; shelf < 8; shelf++) {
            int d = shelf;
            idle(HeldPartEdges::some, "copy(" + d + ", 0, 7, 0, 0)", x -> x.copy(d, 0, 7, 0, 0), -11);
            idle(HeldPartEdges::some, "copy(7, 0, " + d + ", 0, 0)", x -> x.copy(7, 0, d, 0, 0), -11);
            idle(HeldPartEdges::some, "copy(" + d + ", -1, 7, -1, -1)", x -> x.copy(d, -1, 7, -1, -1), -11);
            idle(HeldPartEdges::some, "copy(7, HIGH, " + d + ", HIGH, HIGH)", x -> x.copy(7, HIGH, d, HIGH, HIGH), -11);
            idle(HeldPart::new, "copy(" + d + ", 0, " + d + ", 0, 0)", x -> x.copy(d, 0, d, 0, 0), -11);
        }
        says("31: -12: one is no ROW, or they are not of one kind, ahead of -13");
        int[][] pairs = {{0, 0}, {0, 1}, {0, 2}, {2, 0}, {0, 3}, {3, 0}, {2, 3}, {3, 2}, {2, 5}, {5, 2}, {4, 5},
            {5, 4}};
        for (int[] p : pairs) {
            String text = "copy(" + p[0] + ", .., " + p[1];
            idle(HeldPartEdges::some, text + ") of 1", x -> x.copy(p[0], 0, p[1], 0, 1), -12);
            idle(HeldPartEdges::some, text + ") of none", x -> x.copy(p[0], 0, p[1], 0, 0), -12);
            idle(HeldPartEdges::some, text + ") below 0", x -> x.copy(p[0], -1, p[1], -1, -1), -12);
            idle(HeldPartEdges::some, text + ") beyond", x -> x.copy(p[0], HIGH, p[1], HIGH, HIGH), -12);
        }
    }

    /** SHELF 2 has 15 ints, SHELF 4 has 5; SHELF 3 has 3 bytes, SHELF 5 has 4. */
    private static void copyPlaces() {
        says("31: -13: n, i or j is below 0");
        int[] below = {LOW, -1};
        for (int b : below) {
            idle(HeldPartEdges::some, "copy(2, " + b + ", 4, 0, 1)", x -> x.copy(2, b, 4, 0, 1), -13);
            idle(HeldPartEdges::some, "copy(2, 0, 4, " + b + ", 1)", x -> x.copy(2, 0, 4, b, 1), -13);
            idle(HeldPartEdges::some, "copy(2, 0, 4, 0, " + b + ")", x -> x.copy(2, 0, 4, 0, b), -13);
            idle(HeldPartEdges::some, "copy(2, " + b + ", 4, 0, 0)", x -> x.copy(2, b, 4, 0, 0), -13);
            idle(HeldPartEdges::some, "copy(2, 0, 4, " + b + ", 0)", x -> x.copy(2, 0, 4, b, 0), -13);
            idle(HeldPartEdges::some, "copy(3, 1, 5, 1, " + b + ")", x -> x.copy(3, 1, 5, 1, b), -13);
        }
        says("31: -13: or beyond either's end");
        int[][] far = {{0, 0, 6}, {0, 1, 5}, {0, 5, 1}, {0, 6, 0}, {11, 0, 5}, {15, 0, 1}, {16, 0, 0}, {14, 0, 2},
            {HIGH, 0, 1}, {0, HIGH, 1}, {0, 0, HIGH}, {HIGH, 0, 0}, {0, HIGH, 0}, {1, 1, HIGH}, {HIGH, HIGH, HIGH},
            {HIGH, 1, HIGH}, {2, HIGH, HIGH}};
        for (int[] f : far) {
            String text = "copy(2, " + f[0] + ", 4, " + f[1] + ", " + f[2] + ")";
            idle(HeldPartEdges::some, text, x -> x.copy(2, f[0], 4, f[1], f[2]), -13);
        }
        int[][] farBack = {{0, 0, 6}, {1, 0, 5}, {5, 0, 1}, {6, 0, 0}, {0, 11, 5}, {0, 15, 1}, {0, 16, 0}};
        for (int[] f : farBack) {
            String text = "copy(4, " + f[0] + ", 2, " + f[1] + ", " + f[2] + ")";
            idle(HeldPartEdges::some, text, x -> x.copy(4, f[0], 2, f[1], f[2]), -13);
        }
        int[][] farBytes = {{0, 0, 4}, {1, 0, 3}, {0, 2, 3}, {0, 4, 1}, {3, 0, 1}, {4, 0, 0}, {0, 5, 0}};
        for (int[] f : farBytes) {
            String text = "copy(3, " + f[0] + ", 5, " + f[1] + ", " + f[2] + ")";
            idle(HeldPartEdges::some, text, x -> x.copy(3, f[0], 5, f[1], f[2]), -13);
        }
        says("31: up to both ends, and none at an end");
        int[][] near = {{0, 0, 5}, {10, 0, 5}, {14, 4, 1}, {13, 3, 2}, {0, 0, 0}, {15, 5, 0}, {15, 0, 0}, {0, 5, 0}};
        for (int[] n : near) {
            String text = "copy(2, " + n[0] + ", 4, " + n[1] + ", " + n[2] + ")";
            due(some(), text, x -> x.copy(2, n[0], 4, n[1], n[2]), n[2]);
        }
        due(some(), "copy(3, 0, 5, 1, 3)", x -> x.copy(3, 0, 5, 1, 3), 3);
        due(some(), "copy(3, 3, 5, 4, 0)", x -> x.copy(3, 3, 5, 4, 0), 0);
        due(full(), "copy(4, 0, 4, 0, 60): the longest", x -> x.copy(4, 0, 4, 0, 60), 60);
        due(full(), "copy(4, 0, 4, 0, 61)", x -> x.copy(4, 0, 4, 0, 61), -13);
        HeldPart empty = new HeldPart();
        empty.make(0, 3, 0);
        due(empty, "copy(0, 0, 0, 0, 0) of a ROW without places", x -> x.copy(0, 0, 0, 0, 0), 0);
        due(empty, "copy(0, 0, 0, 0, 1) of a ROW without places", x -> x.copy(0, 0, 0, 0, 1), -13);
        due(empty, "copy(0, 1, 0, 0, 0) of a ROW without places", x -> x.copy(0, 1, 0, 0, 0), -13);
    }

    private static void copyAll() {
        says("31: (as they all were before)");
        int[] moves = {-14, -7, -2, -1, 0, 1, 2, 7, 14};
        for (int m : moves) {
            HeldPart x = some();
            HeldPart before = some();
            int n = 15 - Math.abs(m);
            int from = Math.max(0, -m);
            int to = Math.max(0, m);
            due(x, "copy(2, " + from + ", 2, " + to + ", " + n + ")", y -> y.copy(2, from, 2, to, n), n);
            for (int i = 0; i < 15; i++) {
                int at = i;
                boolean isNew = i >= to && i < to + n;
                due(x, "element(2, " + at + ") moved by " + m, y -> y.element(2, at),
                        before.element(2, isNew ? i - m : i));
            }
        }
        HeldPart bytes = new HeldPart();
        chain(bytes, 12);
        bytes.keep(0, 4, 0);
        due(bytes, "copy(0, 0, 0, 1, 11)", y -> y.copy(0, 0, 0, 1, 11), 11);
        for (int i = 0; i < 12; i++) {
            int at = i;
            due(bytes, "element(0, " + at + ")", y -> y.element(0, at), at == 0 ? 0 : (at - 1) % 6);
        }
        due(bytes, "copy(0, 1, 0, 0, 11)", y -> y.copy(0, 1, 0, 0, 11), 11);
        for (int i = 0; i < 12; i++) {
            int at = i;
            due(bytes, "element(0, " + at + ") back", y -> y.element(0, at), at == 11 ? 4 : at % 6);
        }
        says("31: n elements of the ROW on SHELF d .. come to the ROW on SHELF e: those and no others");
        HeldPart x = some();
        due(x, "copy(2, 4, 4, 1, 3)", y -> y.copy(2, 4, 4, 1, 3), 3);
        long[] want = {0, 1, 10, 1, 0};
        for (int i = 0; i < 5; i++) {
            int at = i;
            due(x, "element(4, " + at + ")", y -> y.element(4, at), want[at]);
        }
        for (int i = 0; i < 15; i++) {
            int at = i;
            due(x, "element(2, " + at + "): d keeps its own", y -> y.element(2, at), some().element(2, at));
        }
        says("31: two ROWS kept alike are two");
        HeldPart twins = some();
        twins.keep(6, 3, 0);
        twins.copy(4, 0, 6, 0, 5);
        due(twins, "element(6, 1)", y -> y.element(6, 1), 0);
        due(twins, "element(2, 1)", y -> y.element(2, 1), 1);
        due(twins, "wrench(0, -1, 1)", y -> y.wrench(0, -1, 1), 1);
    }

    // ---- promises 32, 33

    private static void weight() {
        says("32: 10 and its BODY; of PADS, BALLS GRIP and 100 more; of BALLS twice all that; of CLAMPS 1000 more");
        int[] mores = {100, 120, 2000, 2020};
        for (int more : mores) {
            int body = more % 100;
            int grip = more / 100;
            long[] want = {10 + body, 110 + body + grip, 1010 + body, 2 * (110 + body + grip)};
            for (int kind = 0; kind < 4; kind++) {
                HeldPart x = new HeldPart();
                x.contact(10 * kind + 7, 100, -100, more);
                x.keep(7, 1, 0);
                due(x, "weight(7) of KIND " + kind + " and " + more, y -> y.weight(7), want[kind]);
            }
        }
        says("32: -1");
        noSuchShelf("weight(d)", d -> x -> x.weight(d), -1);
        says("32: -11");
        for (int shelf = 0; shelf < 8; shelf++) {
            int d = shelf;
            idle(HeldPart::new, "weight(" + d + ")", x -> x.weight(d), -11);
        }
        idle(HeldPartEdges::some, "weight(7)", x -> x.weight(7), -11);
        says("32: -12");
        for (int shelf = 2; shelf < 6; shelf++) {
            int d = shelf;
            idle(HeldPartEdges::some, "weight(" + d + ")", x -> x.weight(d), -12);
        }
    }

    private static void toss() {
        says("33: its number");
        for (int kind = 1; kind <= 3; kind += 2) {
            HeldPart x = new HeldPart();
            for (int i = 0; i < 10; i++) {
                int at = i;
                x.contact(10 * kind, i, i, 100 * (i + 1));
                x.keep(i % 8, 1, i);
                due(x, "toss of CONTACT " + i, y -> y.toss(at % 8), i);
                due(x, "toss again", y -> y.toss(at % 8), i);
            }
        }
        says("33: -1");
        noSuchShelf("toss(d)", d -> x -> x.toss(d), -1);
        says("33: -11");
        for (int shelf = 0; shelf < 8; shelf++) {
            int d = shelf;
            idle(HeldPart::new, "toss(" + d + ")", x -> x.toss(d), -11);
        }
        idle(HeldPartEdges::some, "toss(7)", x -> x.toss(7), -11);
        says("33: -12");
        for (int shelf = 2; shelf < 6; shelf++) {
            int d = shelf;
            idle(HeldPartEdges::some, "toss(" + d + ")", x -> x.toss(d), -12);
        }
        says("33: -15: PINS and CLAMPS have none");
        idle(HeldPartEdges::some, "toss(0) of a CLAMP", x -> x.toss(0), -15);
        idle(HeldPartEdges::full, "toss(7) of a PIN", x -> x.toss(7), -15);
        HeldPart gripped = pinned(7, 0, 0, 27, 0, 0);
        gripped.keep(0, 1, 0);
        gripped.keep(1, 1, 1);
        due(gripped, "toss(0) of a PIN told with a GRIP", x -> x.toss(0), -15);
        due(gripped, "toss(1) of a CLAMP told with a GRIP", x -> x.toss(1), -15);
    }

    public static void main(String[] args) {
        Runnable[] tests = {HeldPartEdges::calls, HeldPartEdges::asking, HeldPartEdges::newObject,
            HeldPartEdges::contactTold, HeldPartEdges::contactPlace, HeldPartEdges::contactMore,
            HeldPartEdges::contactFull, HeldPartEdges::undo, HeldPartEdges::move, HeldPartEdges::miss,
            HeldPartEdges::look, HeldPartEdges::wrench, HeldPartEdges::wrenchOrder, HeldPartEdges::rank,
            HeldPartEdges::hidden, HeldPartEdges::form, HeldPartEdges::without, HeldPartEdges::heldRanges,
            HeldPartEdges::heldEdges, HeldPartEdges::heldByPins, HeldPartEdges::heldByTen,
            HeldPartEdges::heldByClamps, HeldPartEdges::heldAtMost, HeldPartEdges::load, HeldPartEdges::unload,
            HeldPartEdges::loads, HeldPartEdges::pull, HeldPartEdges::worstThree, HeldPartEdges::worstOfTen,
            HeldPartEdges::worstFeature, HeldPartEdges::worstFraction, HeldPartEdges::bestRefusals,
            HeldPartEdges::bestOfLike, HeldPartEdges::step, HeldPartEdges::setups, HeldPartEdges::fewestByTold,
            HeldPartEdges::setup, HeldPartEdges::told,
            HeldPartEdges::point, HeldPartEdges::tool, HeldPartEdges::nearer, HeldPartEdges::meets,
            HeldPartEdges::met, HeldPartEdges::count, HeldPartEdges::keepWhat, HeldPartEdges::keepRows,
            HeldPartEdges::keepAgain, HeldPartEdges::make, HeldPartEdges::element, HeldPartEdges::copyRefusals,
            HeldPartEdges::copyPlaces, HeldPartEdges::copyAll, HeldPartEdges::weight, HeldPartEdges::toss};
        for (Runnable test : tests) {
            test.run();
        }
        System.out.println(wrong == 0 ? "all " + sentences + " sentences hold" : wrong + " answers are not as due");
        if (wrong != 0) {
            System.exit(1);
        }
    }
}
