import java.io.IOException;
import java.lang.reflect.Constructor;
import java.lang.reflect.Field;
import java.lang.reflect.Method;
import java.lang.reflect.Modifier;
import java.nio.file.Files;
import java.nio.file.Path;
import java.util.ArrayList;
import java.util.List;
import java.util.Set;
import java.util.TreeSet;
import java.util.regex.Matcher;
import java.util.regex.Pattern;

/** What of LANGUAGE.md and of the document's face can be seen from the class and its source. */
public final class LanguageTest {
    private static final String FACE = """
        int type(int,int); int wipe(int); int undo(int); int fault(int); int statue(int,int); int cloth(int,int);
        int season(int); int set(int,int); int is(int,int,int); int fits(int,int); int wears(int,int);
        int behind(int,int); int freezes(int); int changes(int); int most(int,int); int round(int,int,int);
        int sew(int,int); int seen(int,int,int); int forget(); int read(int); int swapped(int); int look(int);
        long moths(int,int,int,int); int weather(int,int,int); int sheet(int,int,int); int lose(int);
        int lay(int,int,int,int); int get(int,int,int); int copy(int,int,int,int,int); int write(int,int);
        int count(int); long digest()""";
    private static final Set<String> LIBRARY = Set.of("Math.max", "Math.min", "Math.abs", "Integer.bitCount", "System.arraycopy");

    public static void main(String[] args) throws IOException {
        String source = Files.readString(Path.of(args.length > 0 ? args[0] : "src/main/java/StatueCoats.java"));
        face();
        constants();
        insides();
        words(bare(source));
        methodsAreShort(source);
        Check.end("LanguageTest");
    }

    private static void face() {
        Set<String> want = new TreeSet<>();
        for (String one : FACE.split(";\\s*")) {
            want.add(one.trim());
        }
        Set<String> got = new TreeSet<>(), names = new TreeSet<>();
        for (Method m : StatueCoats.class.getDeclaredMethods()) {
            if (Modifier.isPrivate(m.getModifiers())) {
                continue;
            }
            List<String> types = new ArrayList<>();
            for (Class<?> type : m.getParameterTypes()) {
                types.add(type.getName());
            }
            got.add(m.getReturnType() + " " + m.getName() + "(" + String.join(",", types) + ")");
            names.add(m.getName());
            Check.dueTrue(m + " is public and no more", m.getModifiers() == Modifier.PUBLIC);
        }
        Check.dueTrue("the face is " + got, got.equals(want));
        List<Class<?>> all = new ArrayList<>(List.of(StatueCoats.class.getDeclaredClasses()));
        all.add(StatueCoats.class);
        for (Class<?> one : all) {
            for (Method m : one.getDeclaredMethods()) {
                boolean isFace = one == StatueCoats.class && Modifier.isPublic(m.getModifiers());
                Check.dueTrue(m + " bears a name of the face", isFace || !names.contains(m.getName()));
                Check.dueTrue(m + " takes at most seven", m.getParameterCount() <= 7);
            }
        }
        Check.due("final and public", StatueCoats.class.getModifiers(), Modifier.PUBLIC | Modifier.FINAL);
        Constructor<?>[] made = StatueCoats.class.getDeclaredConstructors();
        Check.due("constructors", made.length, 1);
        Check.dueTrue("public, of nothing", made[0].getModifiers() == Modifier.PUBLIC && made[0].getParameterCount() == 0);
    }

    private static void constants() {
        Check.due("NONE", StatueCoats.NONE, -1);
        Check.due("BAD", StatueCoats.BAD, -2);
        Check.due("NOT", StatueCoats.NOT, -3);
        Check.due("FULL", StatueCoats.FULL, -4);
        Set<String> seen = new TreeSet<>();
        for (Field f : StatueCoats.class.getDeclaredFields()) {
            if (!Modifier.isPrivate(f.getModifiers())) {
                seen.add(f.getName());
            }
        }
        Check.dueTrue("no other field is seen: " + seen, seen.equals(Set.of("NONE", "BAD", "NOT", "FULL")));
    }

    private static void insides() {
        Class<?>[] classes = StatueCoats.class.getDeclaredClasses();
        Check.dueTrue("at most twelve classes", classes.length + 1 <= 12);
        for (Class<?> one : classes) {
            Check.dueTrue(one + " is static", Modifier.isStatic(one.getModifiers()));
            Check.dueTrue(one + " is not public", (one.getModifiers() & (Modifier.PUBLIC | Modifier.PROTECTED)) == 0);
            fields(one);
        }
        fields(StatueCoats.class);
    }

    private static void fields(Class<?> one) {
        int many = 0;
        for (Field f : one.getDeclaredFields()) {
            boolean isStatic = Modifier.isStatic(f.getModifiers());
            many += isStatic ? 0 : 1;
            Check.dueTrue(f + " is a constant", !isStatic || Modifier.isFinal(f.getModifiers()) && f.getType().isPrimitive());
        }
        Check.dueTrue(one + " has at most twenty fields", many <= 20);
    }

    /** The source without comments, texts and signs. */
    private static String bare(String source) {
        return source.replaceAll("(?s)/\\*.*?\\*/", " ").replaceAll("//[^\\n]*", " ")
            .replaceAll("\"[^\"]*\"", "\"\"").replaceAll("'[^']*'", "' '");
    }

    private static void words(String source) {
        String[] banned = {"throw", "throws", "try", "catch", "synchronized", "assert", "import", "package", "native",
            "volatile", "equals", "hashCode", "toString", "String", "Object", "var", "instanceof", "double", "float"};
        for (String word : banned) {
            Check.dueTrue("no " + word, !Pattern.compile("\\b" + word + "\\b").matcher(source).find());
        }
        for (String sign : new String[] {"->", "::", "@", "while", "static {"}) {
            Check.dueTrue("no " + sign, !source.contains(sign));
        }
        Matcher library = Pattern.compile("\\b(Math|Integer|Long|System|Arrays|Character|Byte|Short)\\.\\w+").matcher(source);
        while (library.find()) {
            Check.dueTrue(library.group() + " is in the library", LIBRARY.contains(library.group()));
        }
    }

    private static void methodsAreShort(String source) {
        String[] lines = source.split("\n");
        for (int at = 0; at < lines.length; at++) {
            Matcher head = Pattern.compile("^( {4}| {8})\\w[^;=]*\\) \\{$").matcher(lines[at]);
            if (!head.find()) {
                continue;
            }
            int end = at;
            while (end < lines.length && !lines[end].equals(head.group(1) + "}")) {
                end++;
            }
            Check.dueTrue("at most sixty lines: " + lines[at].trim(), end - at < 60);
        }
    }
}
