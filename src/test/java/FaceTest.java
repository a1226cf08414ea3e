import java.lang.reflect.Constructor;
import java.lang.reflect.Field;
import java.lang.reflect.Method;
import java.lang.reflect.Modifier;
import java.nio.charset.StandardCharsets;
import java.nio.file.Files;
import java.nio.file.Paths;
import java.util.Arrays;
import java.util.List;
import java.util.TreeSet;
import java.util.regex.Matcher;
import java.util.regex.Pattern;

/** The public face is the document's and no more, and the source keeps to what LANGUAGE.md leaves. */
public final class FaceTest {
    private static final String[] FACE = {
        "int place(int,int,int)", "int placeOf(int,int)", "int clouds(int)", "int heat(int)", "int carrier(int,int)",
        "int of(int,int)", "int set(int,int,int)", "int turn(int,int)", "int as(int,int)", "int go(int,int)",
        "int sell(int)", "int hours(int)", "int now(int)", "int on(int,int)", "int found(int)", "int firstFound()",
        "int soonest(int,int)", "int reach(int,int)", "int cover(int,int,int)", "int best(int,int)",
        "int where(int,int)", "int post(int,int)", "int kind(int,int)", "int depart(int,int)", "int feed(int,int)",
        "int wipe()", "int land()", "int sheet(int,int,int)", "long write(int,int,long)",
        "int copy(int,int,int,int,int)", "int lays(int)", "int book(int,int)", "int read(int,int)", "int image()",
        "int undo()", "int tear()", "int count(int)", "int status(int)"};
    private static final String[] FORBIDDEN = {
        "\\bthrows?\\b", "\\btry\\b", "\\bcatch\\b", "\\bsynchronized\\b", "\\bassert\\b", "->", "::", "@",
        "\\bSystem\\.(?!arraycopy)", "Exact\\b", "\\bRandom\\b", "\\bThread\\b", "^package\\b", "\\bpublic static\\b",
        "^import (?!java\\.util\\.Arrays;)", "String\\[\\]"};

    private static final List<Class<?>> CONSTANTS = Arrays.asList(int.class, long.class, boolean.class, char.class,
        String.class, int[].class, long[].class, char[].class, byte[].class);

    private static int wrong = 0;

    private static void must(boolean holds, String what) {
        if (!holds) {
            wrong++;
            System.out.println("not so: " + what);
        }
    }

    private static String told(Method m) {
        StringBuilder b = new StringBuilder();
        b.append(m.getReturnType()).append(' ').append(m.getName()).append('(');
        for (Class<?> c : m.getParameterTypes()) {
            b.append(b.charAt(b.length() - 1) == '(' ? "" : ",").append(c);
        }
        return b.append(')').toString();
    }

    public static void main(String[] args) throws Exception {
        face();
        source();
        System.out.println(wrong == 0 ? "the face is the document's" : wrong + " things are not so");
        if (wrong != 0) {
            System.exit(1);
        }
    }

    private static void face() {
        Class<?> c = ShadeCarpets.class;
        must(Modifier.isPublic(c.getModifiers()) && Modifier.isFinal(c.getModifiers()), "public and final");
        TreeSet<String> names = new TreeSet<>();
        TreeSet<String> open = new TreeSet<>();
        for (Method m : c.getDeclaredMethods()) {
            if (!Modifier.isPrivate(m.getModifiers())) {
                open.add(told(m));
                names.add(m.getName());
                must(Modifier.isPublic(m.getModifiers()) && !Modifier.isStatic(m.getModifiers()), told(m) + " is public");
            }
        }
        must(open.equals(new TreeSet<>(Arrays.asList(FACE))), "the document's methods and no other: " + open);
        for (Constructor<?> k : c.getDeclaredConstructors()) {
            must(Modifier.isPublic(k.getModifiers()) && k.getParameterCount() == 0, "one public constructor");
        }
        for (Field f : c.getDeclaredFields()) {
            must(Modifier.isPrivate(f.getModifiers()), "private field " + f.getName());
        }
        for (Method m : c.getDeclaredMethods()) {
            must(!Modifier.isPrivate(m.getModifiers()) || !names.contains(m.getName()), "own name for " + told(m));
        }
        must(c.getDeclaredClasses().length <= 11, "at most twelve classes with this one");
        keepsToRules(c);
        for (Class<?> inner : c.getDeclaredClasses()) {
            must(Modifier.isStatic(inner.getModifiers()), inner + " is static");
            keepsToRules(inner);
            for (Method m : inner.getDeclaredMethods()) {
                must(!names.contains(m.getName()), "own name for " + inner.getSimpleName() + "'s " + told(m));
            }
        }
    }

    /** Static fields are constants; some twenty fields beside them; at most seven parameters. */
    private static void keepsToRules(Class<?> c) {
        int own = 0;
        for (Field f : c.getDeclaredFields()) {
            boolean isStatic = Modifier.isStatic(f.getModifiers());
            own += isStatic ? 0 : 1;
            must(!isStatic || Modifier.isFinal(f.getModifiers()) && CONSTANTS.contains(f.getType()), "a constant: " + f);
        }
        must(own <= 20, "at most twenty fields in " + c);
        for (Method m : c.getDeclaredMethods()) {
            must(m.getParameterCount() <= 7, "at most seven parameters in " + m);
        }
    }

    /** A method begins at its head, 4 or 8 blanks in, and ends at the brace as far in. */
    private static void lengths(String source) {
        Matcher m = Pattern.compile("(?sm)^( {4}| {8})(?! |private static (?:final )?class)\\w[^;={}]*\\) \\{\\n(.*?)^\\1\\}").matcher(source);
        int methods = 0;
        while (m.find()) {
            int lines = m.group().split("\\n").length;
            must(lines <= 60, "at most sixty lines, not " + lines + ": " + m.group().split("\\n")[0]);
            methods++;
        }
        must(methods >= FACE.length, "methods seen in the source: " + methods);
    }

    /** Comments and texts are left out first. */
    private static void source() throws Exception {
        byte[] bytes = Files.readAllBytes(Paths.get("src/main/java/ShadeCarpets.java"));
        String source = new String(bytes, StandardCharsets.ISO_8859_1);
        must(Pattern.matches("[\\n -~]*+", source), "plain signs alone");
        lengths(source);
        String code = source.replaceAll("(?s)/\\*.*?\\*/", "").replaceAll("//[^\\n]*", "").replaceAll("\"[^\"\\n]*\"", "\"\"");
        for (String f : FORBIDDEN) {
            Matcher m = Pattern.compile(f, Pattern.MULTILINE).matcher(code);
            must(!m.find(), "no " + f);
        }
    }
}
