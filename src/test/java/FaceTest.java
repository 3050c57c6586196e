import java.io.IOException;
import java.lang.reflect.Constructor;
import java.lang.reflect.Field;
import java.lang.reflect.Method;
import java.lang.reflect.Modifier;
import java.nio.file.Files;
import java.nio.file.Path;
import java.util.Arrays;
import java.util.Set;
import java.util.TreeSet;
import java.util.regex.Matcher;
import java.util.regex.Pattern;

/** The document's public face and no other, and the rules of LANGUAGE.md that can be looked up. */
public final class FaceTest {
    private static final String[] METHODS = {"write 1", "wipe 0", "fault 0", "lay 0", "take 2", "undo 0", "keep 0",
        "sign 2", "corner 2", "height 2", "may 2", "count 1", "flip 2", "gyrate 1", "orbit 0", "apart 0", "next 0",
        "both 1", "turn 1", "across 2", "down 2", "partner 1", "line 1", "rank 0", "many 2", "alike 0", "ways 2"};
    private static final String[] FORBIDDEN = {"throw", "throws", "try", "catch", "finally", "synchronized", "assert",
        "import", "package", "volatile", "transient", "native", "var", "System\\.(?!arraycopy)", "\\w+Exact",
        "Object", "Thread", "Random", "hashCode", "toString", "->", "::", "static\\s*\\{", "\"\\s*\\+", "\\+\\s*\""};
    private static final Set<String> LIBRARY = Set.of("System.arraycopy", "Math.abs", "Math.min", "Integer.bitCount",
        "TABLE_AT_FIRST.length", "TABLE_AT_FIRST.charAt");

    public static void main(String[] args) throws IOException {
        constants();
        members();
        classesInside();
        source();
        Due.end();
    }

    private static void constants() {
        Due.same("BAD", AlternateSigns.BAD, -1);
        Due.same("NO", AlternateSigns.NO, -2);
        Due.same("FULL", AlternateSigns.FULL, -3);
        Due.same("NONE", AlternateSigns.NONE, -4);
        Due.same("ZERO", AlternateSigns.ZERO, 100);
    }

    private static void members() {
        Class<?> face = AlternateSigns.class;
        Due.holds("public and final", Modifier.isPublic(face.getModifiers()) && Modifier.isFinal(face.getModifiers()));
        Due.holds("no package", face.getPackageName().isEmpty());
        Due.same("constructors", face.getDeclaredConstructors().length, 1);
        for (Constructor<?> made : face.getDeclaredConstructors()) {
            Due.holds("a public one without numbers", Modifier.isPublic(made.getModifiers()) && made.getParameterCount() == 0);
        }
        Set<String> found = new TreeSet<>();
        Set<String> hidden = new TreeSet<>();
        for (Method method : face.getDeclaredMethods()) {
            if (Modifier.isPrivate(method.getModifiers())) {
                hidden.add(method.getName());
                continue;
            }
            found.add(method.getName() + " " + method.getParameterCount());
            Due.holds(method + " is public, of ints", method.toString().matches("public int AlternateSigns\\.\\w+\\((int)?(,int)?\\)"));
        }
        Due.holds("methods " + found, found.equals(new TreeSet<>(Arrays.asList(METHODS))));
        for (String method : METHODS) {
            Due.holds("no private " + method, !hidden.contains(method.split(" ")[0]));
        }
        for (Field field : face.getDeclaredFields()) {
            boolean isPublic = Set.of("BAD", "NO", "FULL", "NONE", "ZERO").contains(field.getName());
            Due.holds(field + " public or private", isPublic ? Modifier.isPublic(field.getModifiers()) : Modifier.isPrivate(field.getModifiers()));
        }
    }

    private static void classesInside() {
        Class<?>[] inside = AlternateSigns.class.getDeclaredClasses();
        Due.holds("at most twelve", inside.length <= 12);
        for (Class<?> one : inside) {
            Due.holds(one + " is static and not public", Modifier.isStatic(one.getModifiers()) && !Modifier.isPublic(one.getModifiers()));
            for (Method method : one.getDeclaredMethods()) {
                Due.holds(method + " has seven parameters at most", method.getParameterCount() <= 7);
                Due.holds(method + " has a name of its own", Arrays.stream(METHODS).noneMatch(name -> name.split(" ")[0].equals(method.getName())));
            }
            fields(one);
        }
        fields(AlternateSigns.class);
    }

    private static void fields(Class<?> of) {
        int own = 0;
        for (Field field : of.getDeclaredFields()) {
            boolean isStatic = Modifier.isStatic(field.getModifiers());
            own += isStatic ? 0 : 1;
            Due.holds(field + " final if static", !isStatic || Modifier.isFinal(field.getModifiers()));
        }
        Due.holds(of + " has twenty fields at most", own <= 20);
    }

    private static void source() throws IOException {
        String whole = Files.readString(Path.of("src/main/java/AlternateSigns.java"));
        Due.holds("letters of ASCII", whole.chars().allMatch(letter -> letter < 127));
        String code = whole.replaceAll("(?s)/\\*.*?\\*/", "").replaceAll("//[^\n]*", "");
        for (String word : FORBIDDEN) {
            String bounded = Character.isLetter(word.charAt(0)) ? "\\b" + word + (word.endsWith(")") ? "" : "\\b") : word;
            Matcher matcher = Pattern.compile(bounded).matcher(code);
            Due.holds("no " + word, !matcher.find());
        }
        methodsAreShort(code);
        library(code);
    }

    /** Rule 4: of names with a dot, those that begin like a class or a constant are all looked up. */
    private static void library(String code) {
        Matcher used = Pattern.compile("\\b([A-Z]\\w*)\\.(\\w+)").matcher(code);
        while (used.find()) {
            Due.holds(used.group() + " is in the library's part", LIBRARY.contains(used.group()));
        }
        Due.holds("nothing of java.*", !code.contains("java."));
    }

    /** By the indent of methods: those of the class have four spaces, those of classes inside it eight. */
    private static void methodsAreShort(String code) {
        String[] lines = code.split("\n");
        for (String indent : new String[] {"    ", "        "}) {
            int start = -1;
            for (int at = 0; at < lines.length; at++) {
                if (lines[at].matches(indent + "[a-zA-Z].*\\) \\{")) {
                    start = at;
                } else if (start >= 0 && lines[at].equals(indent + "}")) {
                    Due.holds(lines[start].trim() + " has sixty lines at most", at - start <= 60);
                    start = -1;
                }
            }
        }
    }
}
