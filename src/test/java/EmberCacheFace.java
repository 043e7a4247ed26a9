import java.lang.reflect.Field;
import java.lang.reflect.Method;
import java.lang.reflect.Modifier;
import java.nio.file.Files;
import java.nio.file.Path;
import java.util.Arrays;
import java.util.Set;
import java.util.TreeSet;

/** The public face of the document, and what LANGUAGE.md rules out that a test can see. */
public final class EmberCacheFace {
    private static final Set<String> METHODS = new TreeSet<>(Arrays.asList(
        "int put(long, int, int, int)", "int get(long)", "int got(int)", "int remove(long)",
        "long mix(long)", "long unmix(long)", "int setOf(long)", "int where(long)",
        "int mark(long)", "int stands(int)", "long key(int, int)", "long filter(int)",
        "int alive(int)", "int count(int)", "int close()", "int crash()", "int open()",
        "int check()"));
    private static final String[] RULED_OUT = {
        "\\bthrow\\b", "\\bthrows\\b", "\\btry\\b", "\\bcatch\\b", "\\bsynchronized\\b", "\\bassert\\b",
        "\\bimport\\b", "\\bpackage\\b", "->", "::", "\\bSystem\\.(?!arraycopy)", "\\bwhile\\s*\\(true\\)"};

    private static int wrong = 0;

    private static void tell(boolean holds, String what) {
        if (!holds) {
            wrong++;
            System.out.println("does not hold: " + what);
        }
    }

    private static String shapeOf(Method m) {
        String[] types = Arrays.stream(m.getParameterTypes()).map(Class::getSimpleName).toArray(String[]::new);
        return m.getReturnType().getSimpleName() + " " + m.getName() + "(" + String.join(", ", types) + ")";
    }

    private static void lookAtFace() {
        Class<?> c = EmberCache.class;
        tell(Modifier.isPublic(c.getModifiers()) && Modifier.isFinal(c.getModifiers()), "public and final");
        tell(c.getDeclaredConstructors().length == 1 && c.getConstructors().length == 1, "one constructor, public");
        Set<String> open = new TreeSet<>();
        for (Method m : c.getDeclaredMethods()) {
            if (Modifier.isPublic(m.getModifiers())) {
                open.add(shapeOf(m));
                tell(!Modifier.isStatic(m.getModifiers()), m.getName() + " is of the object");
            } else {
                tell(Modifier.isPrivate(m.getModifiers()), m.getName() + " is private");
            }
        }
        tell(open.equals(METHODS), "the document's methods and no other: " + open);
        for (Field f : c.getDeclaredFields()) {
            boolean named = f.getName().equals("BAD") || f.getName().equals("SHUT");
            int mods = f.getModifiers();
            tell(named ? Modifier.isPublic(mods) : Modifier.isPrivate(mods), f.getName() + " is as open as it must be");
            tell(!Modifier.isStatic(mods) || Modifier.isFinal(mods), f.getName() + " is final if static");
        }
        for (Class<?> inside : c.getDeclaredClasses()) {
            tell(Modifier.isStatic(inside.getModifiers()), inside.getName() + " is static");
        }
        tell(EmberCache.BAD == -1 && EmberCache.SHUT == -2, "the constants");
    }

    private static void lookAtSource(Path source) throws Exception {
        String text = Files.readString(source)
            .replaceAll("(?s)/\\*.*?\\*/", " ").replaceAll("//[^\n]*", " ");
        for (String word : RULED_OUT) {
            tell(!java.util.regex.Pattern.compile(word).matcher(text).find(), "the source has no " + word);
        }
    }

    public static void main(String[] args) throws Exception {
        lookAtFace();
        lookAtSource(Path.of(args.length > 0 ? args[0] : "src/main/java/EmberCache.java"));
        System.out.println(wrong == 0 ? "the face is as due" : wrong + " things do not hold");
        if (wrong != 0) System.exit(1);
    }
}
