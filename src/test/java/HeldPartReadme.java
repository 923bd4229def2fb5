import java.io.IOException;
import java.lang.reflect.InvocationTargetException;
import java.lang.reflect.Method;
import java.lang.reflect.Modifier;
import java.nio.file.Files;
import java.nio.file.Path;
import java.util.ArrayList;
import java.util.Comparator;
import java.util.List;
import java.util.Random;
import java.util.Set;
import java.util.TreeSet;
import java.util.regex.Matcher;
import java.util.regex.Pattern;

/**
 * README.md tells the truth: its example answers what stands beside it, its table has every call of the face, and
 * each call refuses and throws just what its row names. Run from the project's root.
 */
public final class HeldPartReadme {
    private static final Pattern EXAMPLE =
            Pattern.compile("part\\.(\\w+)\\(([^)]*)\\);\\s*// (-?\\d+|Illegal\\w+Exception):.*");
    private static final Pattern ROW = Pattern.compile("\\| `(\\w+)\\(([^)]*)\\)` \\| (.*) \\|(.*)\\|");
    private static final Pattern REFUSAL = Pattern.compile("-\\d+|Illegal\\w+Exception");
    private static final int RUNS = 1500;
    private static final int CALLS = 512;
    /** Far more than the calls that fill an object. */
    private static final int FIRST_WILD_CALL = 100;

    private static int wrong = 0;

    private static void tell(String what) {
        wrong++;
        if (wrong < 40) {
            System.out.println("README.md: " + what);
        }
    }

    private static List<Method> face() {
        List<Method> face = new ArrayList<>();
        for (Method m : HeldPart.class.getDeclaredMethods()) {
            if (Modifier.isPublic(m.getModifiers())) {
                face.add(m);
            }
        }
        face.sort(Comparator.comparing(Method::getName));
        return face;
    }

    /** The answer, or the name of what was thrown. */
    private static String answer(HeldPart x, Method m, Object... arguments) throws IllegalAccessException {
        try {
            return m.invoke(x, arguments).toString();
        } catch (InvocationTargetException e) {
            return e.getCause().getClass().getSimpleName();
        }
    }

    // ---- the example

    private static Object[] arguments(String text) {
        List<Object> list = new ArrayList<>();
        for (String part : text.isBlank() ? new String[0] : text.split(", ")) {
            boolean isTruth = part.equals("true") || part.equals("false");
            list.add(isTruth ? (Object) Boolean.valueOf(part) : (Object) Integer.valueOf(part));
        }
        return list.toArray();
    }

    private static void runExample(List<String> lines, List<Method> face) throws IllegalAccessException {
        HeldPart part = new HeldPart();
        int asked = 0;
        for (String line : lines) {
            if (!line.startsWith("part.")) {
                continue;
            }
            Matcher told = EXAMPLE.matcher(line);
            if (!told.matches()) {
                tell("no answer stands beside: " + line);
                continue;
            }
            for (Method m : face) {
                if (m.getName().equals(told.group(1))) {
                    String got = answer(part, m, arguments(told.group(2)));
                    asked++;
                    if (!got.equals(told.group(3))) {
                        tell(line + " answered " + got);
                    }
                }
            }
        }
        if (asked < 20) {
            tell("there is no example, only " + asked + " calls of it");
        }
    }

    // ---- the table

    /** What the row of a call names as refused or thrown; null if there is no such row. */
    private static Set<String> named(List<String> lines, Method m) {
        for (String line : lines) {
            Matcher row = ROW.matcher(line);
            if (!row.matches() || !row.group(1).equals(m.getName())) {
                continue;
            }
            int parameters = row.group(2).isEmpty() ? 0 : row.group(2).split(", ").length;
            if (parameters != m.getParameterCount()) {
                tell(m.getName() + " takes " + m.getParameterCount());
            }
            Set<String> named = new TreeSet<>();
            Matcher refusal = REFUSAL.matcher(row.group(4));
            while (refusal.find()) {
                named.add(refusal.group());
            }
            return named;
        }
        return null;
    }

    private static HeldPart built(Random random, boolean isFull) {
        HeldPart x = new HeldPart();
        for (int i = isFull ? 10 : random.nextInt(10); i > 0; i--) {
            x.contact(10 * random.nextInt(4) + random.nextInt(8), random.nextInt(21) - 10,
                    random.nextInt(21) - 10, 100 * (1 + random.nextInt(20)) + random.nextInt(21));
        }
        for (int i = isFull ? 16 : random.nextInt(16); i > 0; i--) {
            x.load(random.nextInt(21) - 10, random.nextInt(21) - 10, random.nextInt(21) - 10);
        }
        for (int i = isFull ? 12 : random.nextInt(12); i > 0; i--) {
            x.step(1 + random.nextInt(63), 0);
        }
        for (int i = isFull ? 40 : random.nextInt(40); i > 0; i--) {
            x.point(random.nextInt(401) - 200, random.nextInt(401) - 200);
        }
        return x;
    }

    private static Object wild(Class<?> type, Random random) {
        if (type == boolean.class) {
            return random.nextBoolean();
        }
        switch (random.nextInt(6)) {
            case 0: return random.nextInt();
            case 1: return random.nextInt(1200) - 100;
            case 2: return 210;
            default: return random.nextInt(10) - 1;
        }
    }

    /** What each call of the face refused or threw, in their order. */
    private static List<Set<String>> refused(List<Method> face) throws IllegalAccessException {
        List<Set<String>> refused = new ArrayList<>();
        for (int i = 0; i < face.size(); i++) {
            refused.add(new TreeSet<>());
        }
        for (int run = 0; run < RUNS; run++) {
            Random random = new Random(run);
            HeldPart x = built(random, run % 4 == 0);
            for (int call = FIRST_WILD_CALL; call < CALLS; call++) {
                int at = random.nextInt(face.size());
                Method m = face.get(at);
                Object[] arguments = new Object[m.getParameterCount()];
                for (int i = 0; i < arguments.length; i++) {
                    arguments[i] = wild(m.getParameterTypes()[i], random);
                }
                String got = answer(x, m, arguments);
                boolean isNumber = got.matches("-?\\d+");
                // A call that throws may answer numbers below 0 that refuse nothing.
                boolean isRefusal = isNumber ? got.startsWith("-") && m.getReturnType() == int.class : true;
                if (isRefusal) {
                    refused.get(at).add(got);
                }
            }
        }
        return refused;
    }

    public static void main(String[] args) throws IOException, IllegalAccessException {
        List<String> lines = Files.readAllLines(Path.of("README.md"));
        List<Method> face = face();
        runExample(lines, face);
        List<Set<String>> refused = refused(face);
        for (int i = 0; i < face.size(); i++) {
            Set<String> named = named(lines, face.get(i));
            if (named == null) {
                tell("there is no row for " + face.get(i).getName());
            } else if (!named.equals(refused.get(i))) {
                tell(face.get(i).getName() + " names " + named + ", but answers " + refused.get(i));
            }
        }
        System.out.println(wrong == 0 ? "README.md tells what the class does" : wrong + " faults of README.md");
        if (wrong != 0) {
            System.exit(1);
        }
    }
}
