import java.lang.reflect.InvocationTargetException;
import java.lang.reflect.Method;
import java.lang.reflect.Modifier;
import java.util.ArrayList;
import java.util.Arrays;
import java.util.Comparator;
import java.util.List;
import java.util.Random;

/** Wild arguments in wild states: nothing is ever thrown but what the call's own line in the document names. */
public final class HeldPartNeverBreaks {
    private static final int RUNS = 3000;
    private static final int CALLS = 512;
    private static final int[] EDGES = {Integer.MIN_VALUE, Integer.MIN_VALUE + 1, -1001, -1000, -201, -200, -101,
        -100, -2, -1, 0, 1, 2, 3, 4, 5, 6, 7, 8, 9, 10, 11, 12, 15, 16, 20, 21, 50, 51, 60, 61, 63, 64, 100, 101,
        200, 201, 210, 500, 999, 1000, 1001, 2000, 2020, 4095, 4096, 60466175, 60466176, Integer.MAX_VALUE - 1,
        Integer.MAX_VALUE};

    private static int number(Random random) {
        switch (random.nextInt(3)) {
            case 0: return EDGES[random.nextInt(EDGES.length)];
            case 1: return random.nextInt(12);
            default: return random.nextInt(80) - 10;
        }
    }

    private static List<Method> face() {
        List<Method> face = new ArrayList<>();
        for (Method m : HeldPart.class.getDeclaredMethods()) {
            if (Modifier.isPublic(m.getModifiers())) {
                face.add(m);
            }
        }
        // Reflection tells methods in no sure order, and a run must be the same each time.
        face.sort(Comparator.comparing(Method::getName));
        return face;
    }

    private static void build(HeldPart x, Random random) {
        for (int i = random.nextInt(11); i > 0; i--) {
            x.contact(10 * random.nextInt(4) + random.nextInt(8), random.nextInt(201) - 100,
                    random.nextInt(201) - 100, 100 * (1 + random.nextInt(20)) + random.nextInt(21));
        }
        for (int i = random.nextInt(17); i > 0; i--) {
            x.load(random.nextInt(2001) - 1000, random.nextInt(2001) - 1000, random.nextInt(2001) - 1000);
        }
        for (int i = random.nextInt(13); i > 0; i--) {
            x.step(1 + random.nextInt(63), 0);
        }
    }

    private static String ask(HeldPart x, Method m, Random random) throws IllegalAccessException {
        Object[] arguments = new Object[m.getParameterCount()];
        for (int i = 0; i < arguments.length; i++) {
            arguments[i] = m.getParameterTypes()[i] == boolean.class ? (Object) random.nextBoolean()
                    : (Object) number(random);
        }
        try {
            m.invoke(x, arguments);
            return null;
        } catch (InvocationTargetException e) {
            Throwable thrown = e.getCause();
            boolean isNamed = Arrays.asList(m.getExceptionTypes()).contains(thrown.getClass());
            return isNamed ? null : m.getName() + Arrays.toString(arguments) + " threw " + thrown;
        }
    }

    public static void main(String[] args) throws IllegalAccessException {
        List<Method> face = face();
        int wrong = 0;
        for (int run = 0; run < RUNS; run++) {
            Random random = new Random(run);
            HeldPart x = new HeldPart();
            build(x, random);
            for (int i = 40; i < CALLS; i++) {
                String fault = ask(x, face.get(random.nextInt(face.size())), random);
                if (fault != null) {
                    wrong++;
                    System.out.println("run " + run + ": " + fault);
                }
            }
        }
        System.out.println(wrong == 0 ? "nothing broke" : wrong + " calls broke");
        if (wrong != 0) {
            System.exit(1);
        }
    }
}
