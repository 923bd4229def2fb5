import java.io.IOException;
import java.lang.reflect.Constructor;
import java.lang.reflect.Field;
import java.lang.reflect.Method;
import java.lang.reflect.Modifier;
import java.nio.file.Files;
import java.nio.file.Path;
import java.util.ArrayList;
import java.util.Arrays;
import java.util.Collections;
import java.util.List;
import java.util.Set;
import java.util.TreeSet;
import java.util.regex.Matcher;
import java.util.regex.Pattern;

/** Rules of LANGUAGE.md that can be seen by reflection or in the text of the class; run from the project's root. */
public final class HeldPartLanguage {
    private static final Pattern DECLARED =
            Pattern.compile("    public (int|long) (\\w+)\\(([^)]*)\\)(?: throws ([\\w, ]+))?;");
    private static final String[] FORBIDDEN = {"->", "::", "\\w+Exact\\b", "\\bfinally\\b", "\\bsynchronized\\b",
        "\\bassert\\b", "\\bimport\\b", "\\bpackage\\b", "\\bprotected\\b", "\\bgetMessage\\b", "\\bdouble\\b",
        "\\bfloat\\b", "\\bvar\\b", "\\bwhile\\s*\\(\\s*true", "catch\\s*\\(\\s*(RuntimeException|Exception|Throwable"
        + "|IndexOutOfBoundsException|ArithmeticException|NullPointerException|ClassCastException)",
        "\\bSystem\\.(?!arraycopy\\b)", "\\bMath\\.(?!(abs|min|max|floorDiv|floorMod)\\b)",
        "\\bArrays\\.(?!(copyOf|copyOfRange|fill)\\b)"};
    private static final int LONGEST_METHOD = 60;

    private static int wrong = 0;

    private static void require(boolean holds, String rule) {
        if (!holds) {
            wrong++;
            System.out.println("broken: " + rule);
        }
    }

    private static String told(Method m) {
        StringBuilder s = new StringBuilder(m.getReturnType().getSimpleName()).append(' ').append(m.getName());
        List<String> types = new ArrayList<>();
        for (Class<?> p : m.getParameterTypes()) {
            types.add(p.getSimpleName());
        }
        s.append('(').append(String.join(", ", types)).append(')');
        for (Class<?> e : m.getExceptionTypes()) {
            s.append(e == IllegalArgumentException.class ? " A" : e == IllegalStateException.class ? " S" : " ?");
        }
        return s.toString();
    }

    /** The calls of the face as the document writes them, each told as told(Method) does. */
    private static List<String> faceOf(String document) {
        List<String> face = new ArrayList<>();
        Matcher m = DECLARED.matcher(document);
        while (m.find()) {
            String types = m.group(3).replaceAll("(int|long|boolean) \\w+", "$1");
            String thrown = m.group(4) == null ? "" : " " + m.group(4).replace(",", "")
                    .replace("IllegalArgumentException", "A").replace("IllegalStateException", "S");
            face.add(m.group(1) + " " + m.group(2) + "(" + types + ")" + thrown);
        }
        require(face.size() == 32, "the document's face has 32 calls, found were " + face.size());
        return face;
    }

    private static void lookAtFace(List<String> want) {
        List<String> face = new ArrayList<>();
        for (Method m : HeldPart.class.getDeclaredMethods()) {
            if (Modifier.isPublic(m.getModifiers())) {
                face.add(told(m));
                require(!Modifier.isStatic(m.getModifiers()), "rule 1: not static: " + m);
            } else {
                require(Modifier.isPrivate(m.getModifiers()), "rule 1: private or of the face: " + m);
            }
        }
        Collections.sort(face);
        Collections.sort(want);
        require(face.equals(want), "rule 1: the face is " + face);
        Constructor<?>[] made = HeldPart.class.getDeclaredConstructors();
        require(made.length == 1 && Modifier.isPublic(made[0].getModifiers())
                && made[0].getParameterCount() == 0, "rule 1: one public constructor");
        require(Modifier.isPublic(HeldPart.class.getModifiers())
                && Modifier.isFinal(HeldPart.class.getModifiers()), "rule 1: public and final");
        for (Field f : HeldPart.class.getDeclaredFields()) {
            require(Modifier.isPrivate(f.getModifiers()), "rule 1: private: " + f);
        }
    }

    private static void lookAtClasses(List<String> face) {
        List<Class<?>> classes = new ArrayList<>(Arrays.asList(HeldPart.class.getDeclaredClasses()));
        Set<String> names = new TreeSet<>();
        for (String f : face) {
            names.add(f.substring(f.indexOf(' ') + 1, f.indexOf('(')));
        }
        require(classes.size() + 1 <= 12, "rule 11: some twelve classes");
        for (Class<?> c : classes) {
            require(Modifier.isStatic(c.getModifiers()), "rule 1: static: " + c);
            require(!Modifier.isPublic(c.getModifiers()) && !Modifier.isProtected(c.getModifiers()),
                    "rule 1: private or package-visible: " + c);
            for (Method m : c.getDeclaredMethods()) {
                require(!names.contains(m.getName()), "rule 1: no name of the face: " + m);
            }
        }
        classes.add(HeldPart.class);
        for (Class<?> c : classes) {
            lookAtMembers(c, names);
        }
    }

    private static void lookAtMembers(Class<?> c, Set<String> names) {
        int fields = 0;
        for (Field f : c.getDeclaredFields()) {
            if (Modifier.isStatic(f.getModifiers())) {
                require(Modifier.isFinal(f.getModifiers()), "rule 5: final: " + f);
            } else {
                fields++;
            }
        }
        require(fields <= 20, "rule 11: some twenty fields: " + c);
        for (Method m : c.getDeclaredMethods()) {
            require(m.getParameterCount() <= 7, "rule 11: seven parameters: " + m);
            require(Modifier.isPublic(m.getModifiers()) || !names.contains(m.getName()),
                    "rule 1: no private method of a public one's name: " + m);
        }
    }

    private static String withoutWords(String text) {
        return text.replaceAll("(?s)/\\*.*?\\*/", "").replaceAll("//[^\n]*", "").replaceAll("\"[^\"\n]*\"", "\"\"");
    }

    private static void lookAtText(String text) {
        String code = withoutWords(text);
        for (String f : FORBIDDEN) {
            Matcher m = Pattern.compile(f).matcher(code);
            require(!m.find(), "not in this Java: " + f);
        }
        for (int i = 0; i < text.length(); i++) {
            require(text.charAt(i) < 128, "signs 1 to 127 alone, at " + i);
        }
        int opened = -1;
        String[] lines = text.split("\n");
        for (int i = 0; i < lines.length; i++) {
            if (lines[i].matches("( {4}| {8})(@Override|[a-z][\\w\\[\\]. ]*\\(.*)") && lines[i].endsWith("{")) {
                opened = i;
            } else if (lines[i].matches(" {4}( {4})?}") && opened >= 0) {
                require(i - opened < LONGEST_METHOD, "rule 11: short methods: line " + (opened + 1));
                opened = -1;
            }
        }
    }

    public static void main(String[] args) throws IOException {
        List<String> face = faceOf(Files.readString(Path.of("../shared/DOC.md")));
        lookAtFace(face);
        lookAtClasses(face);
        lookAtText(Files.readString(Path.of("src/main/java/HeldPart.java")));
        System.out.println(wrong == 0 ? "the rules that can be seen are kept" : wrong + " rules are broken");
        if (wrong != 0) {
            System.exit(1);
        }
    }
}
