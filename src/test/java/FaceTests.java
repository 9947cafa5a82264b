import java.lang.reflect.Constructor;
import java.lang.reflect.Field;
import java.lang.reflect.Method;
import java.lang.reflect.Modifier;
import java.nio.file.Files;
import java.nio.file.Path;
import java.util.Set;
import java.util.TreeSet;
import java.util.regex.Pattern;

/**
 * The face is that of the document and no more; and no call throws, whatever it is given and
 * however long an object is used.
 */
public final class FaceTests {
    private static final Set<String> FACE = Set.of(
            "boolean begin(int)", "int read(int,int,int)", "int write(int,int,int,long)",
            "int deliver(int)", "int waits(int)", "int at(int,int)", "long result(int)",
            "int access(int,int)", "int owner(int)", "int guess(int,int)", "int copies(int,int)",
            "long word(int,int,int)", "int queue(int,int)", "int chain(int,int)", "int flying()",
            "int letter(int,int)", "long letterWord(int,int)", "int count(int)");
    private static final int[] ODD = {Integer.MIN_VALUE, Integer.MIN_VALUE + 1, -9, -2, -1, 0, 1,
        2, 3, 4, 5, 6, 7, 8, 9, 31, 32, 33, 1 << 16, Integer.MAX_VALUE};

    private static int wrong = 0;

    private static void due(String what, Object got, Object want) {
        if (!got.equals(want)) {
            wrong++;
            System.out.println(what + ": " + got + ", due is " + want);
        }
    }

    public static void main(String[] args) throws Exception {
        face();
        nothingThrows();
        catchesNothing();
        System.out.println(wrong == 0 ? "face: as the document's" : wrong + " faults");
        if (wrong != 0) {
            System.exit(1);
        }
    }

    private static void face() throws Exception {
        Class<?> c = PageOwners.class;
        int modifiers = c.getModifiers();
        due("public and final", Modifier.isPublic(modifiers) && Modifier.isFinal(modifiers), true);
        due("a package", c.getPackageName(), "");
        Set<String> open = new TreeSet<>();
        Set<String> openNames = new TreeSet<>();
        for (Method m : c.getDeclaredMethods()) {
            if (!Modifier.isPrivate(m.getModifiers()) && !m.isSynthetic()) {
                due("public " + m, Modifier.isPublic(m.getModifiers()), true);
                due("not static " + m, Modifier.isStatic(m.getModifiers()), false);
                open.add(signature(m));
                openNames.add(m.getName());
            }
        }
        due("methods", open, new TreeSet<>(FACE));
        for (Method m : c.getDeclaredMethods()) {
            if (Modifier.isPrivate(m.getModifiers())) {
                due("private " + m + " has a public name", openNames.contains(m.getName()), false);
            }
        }
        for (Field f : c.getDeclaredFields()) {
            boolean none = f.getName().equals("NONE");
            due("private " + f, Modifier.isPrivate(f.getModifiers()), !none);
        }
        due("NONE", c.getField("NONE").getInt(null), -1);
        Constructor<?>[] makers = c.getDeclaredConstructors();
        due("constructors", makers.length, 1);
        due("parameters of the constructor", makers[0].getParameterCount(), 0);
        due("public constructor", Modifier.isPublic(makers[0].getModifiers()), true);
        for (Class<?> inside : c.getDeclaredClasses()) {
            due("static " + inside, Modifier.isStatic(inside.getModifiers()), true);
            due("not public " + inside, Modifier.isPublic(inside.getModifiers()), false);
        }
    }

    private static String signature(Method m) {
        StringBuilder s = new StringBuilder(m.getReturnType().getName());
        s.append(' ').append(m.getName()).append('(');
        for (int k = 0; k < m.getParameterCount(); k++) {
            s.append(k == 0 ? "" : ",").append(m.getParameterTypes()[k].getName());
        }
        return s.append(')').toString();
    }

    /** All calls with all odd numbers, on one object, far beyond its 512th call. */
    private static void nothingThrows() {
        PageOwners x = new PageOwners();
        try {
            for (int a : ODD) {
                x.begin(a);
                for (int b : ODD) {
                    for (int c : ODD) {
                        x.read(a, b, c);
                        x.write(b, c, a, Long.MIN_VALUE);
                        x.word(c, a, b);
                    }
                    x.deliver(b);
                    callsOfTwo(x, a, b);
                }
                x.waits(a);
                x.result(a);
                x.owner(a);
                x.count(a);
            }
            for (int k = 0; k < 200000; k++) {
                x.write(k % 6, k % 8, k % 4, k);
                x.read((k + 1) % 6, k * 3 % 8, k % 4);
                x.deliver(k * 7 % 5);
            }
        } catch (RuntimeException e) {
            wrong++;
            System.out.println("a call threw " + e);
        }
    }

    private static void callsOfTwo(PageOwners x, int a, int b) {
        x.at(a, b);
        x.access(a, b);
        x.guess(a, b);
        x.copies(a, b);
        x.queue(a, b);
        x.chain(a, b);
        x.letter(a, b);
        x.letterWord(a, b);
    }

    private static void catchesNothing() throws Exception {
        String text = Files.readString(Path.of("src/main/java/PageOwners.java"));
        for (String word : new String[] {"\\bcatch\\b", "\\btry\\b", "->", "::", "\\bassert\\b"}) {
            due("'" + word + "' in the class", Pattern.compile(word).matcher(text).find(), false);
        }
    }
}
