import java.lang.reflect.Field;
import java.lang.reflect.Method;
import java.lang.reflect.Modifier;
import java.nio.file.Files;
import java.nio.file.Path;
import java.util.Arrays;
import java.util.Set;
import java.util.TreeSet;

/** The public face of the document, and what LANGUAGE.md rules out that a test can see. */
public final class EmberCacheFace {
    private static final Set<String> METHODS = new TreeSet<>(Arrays.asList(
        "int put(long, int, int, int)", "int get(long)", "int got(int)", "int remove(long)",
        "long mix(long)", "long unmix(long)", "int setOf(long)", "int where(long)",
        "int mark(long)", "int stands(int)", "long key(int, int)", "long filter(int)",
        "int alive(int)", "int count(int)", "int close()", "int crash()", "int open()",
        "int check()"));
    private static final String[] RULED_OUT = {
        "\\bthrow\\b", "\\bthrows\\b", "\\btry\\b", "\\bcatch\\b", "\\bsynchronized\\b", "\\bassert\\b",
        "\\bimport\\b", "\\bpackage\\b", "->", "::", "\\bSystem\\.(?!arraycopy)", "\\bwhile\\s*\\(true\\)",
        "Exact\\b", "\\b(hashCode|toString|equals)\\b", "\\bjavax?\\.", "\\bstatic\\s*\\{",
        "\\b(?!(Math|Integer|Long|System|Arrays)\\b)[A-Z]\\w*\\."};
    private static final int MOST_LINES = 60, MOST_PARAMETERS = 7, MOST_CLASSES = 12, MOST_FIELDS = 20;

    private static int wrong = 0;

    private static void tell(boolean holds, String what) {
        if (!holds) {
            wrong++;
            System.out.println("does not hold: " + what);
        }
    }

    private static String shapeOf(Method m) {
        String[] types = Arrays.stream(m.getParameterTypes()).map(Class::getSimpleName).toArray(String[]::new);
        return m.getReturnType().getSimpleName() + " " + m.getName() + "(" + String.join(", ", types) + ")";
    }

    private static void lookAtFace() {
        Class<?> c = EmberCache.class;
        tell(Modifier.isPublic(c.getModifiers()) && Modifier.isFinal(c.getModifiers()), "public and final");
        tell(c.getDeclaredConstructors().length == 1 && c.getConstructors().length == 1, "one constructor, public");
        Set<String> open = new TreeSet<>();
        for (Method m : c.getDeclaredMethods()) {
            if (Modifier.isPublic(m.getModifiers())) {
                open.add(shapeOf(m));
                tell(!Modifier.isStatic(m.getModifiers()), m.getName() + " is of the object");
            } else {
                tell(Modifier.isPrivate(m.getModifiers()), m.getName() + " is private");
            }
        }
        tell(open.equals(METHODS), "the document's methods and no other: " + open);
        for (Field f : c.getDeclaredFields()) {
            boolean named = f.getName().equals("BAD") || f.getName().equals("SHUT");
            int mods = f.getModifiers();
            tell(named ? Modifier.isPublic(mods) : Modifier.isPrivate(mods), f.getName() + " is as open as it must be");
        }
        tell(EmberCache.BAD == -1 && EmberCache.SHUT == -2, "the constants");
    }

    private static void lookInside() {
        Class<?>[] inside = EmberCache.class.getDeclaredClasses();
        tell(inside.length < MOST_CLASSES, "no more than some twelve classes");
        lookAtSize(EmberCache.class);
        for (Class<?> c : inside) {
            int mods = c.getModifiers();
            tell(Modifier.isStatic(mods), c.getName() + " is static");
            tell(!Modifier.isPublic(mods) && !Modifier.isProtected(mods), c.getName() + " is not open to all");
            lookAtSize(c);
            for (Method m : c.getDeclaredMethods()) {
                tell(METHODS.stream().noneMatch(shape -> shape.contains(" " + m.getName() + "(")),
                    c.getName() + "." + m.getName() + " does not bear the name of a public one");
            }
        }
    }

    private static void lookAtSize(Class<?> c) {
        long own = Arrays.stream(c.getDeclaredFields()).filter(f -> !Modifier.isStatic(f.getModifiers())).count();
        tell(own <= MOST_FIELDS, c.getName() + " has no more than some twenty fields");
        for (Field f : c.getDeclaredFields()) {
            int mods = f.getModifiers();
            boolean plain = f.getType().isPrimitive() || f.getType() == String.class;
            tell(!Modifier.isStatic(mods) || Modifier.isFinal(mods) && plain, f.getName() + " is a constant if static");
        }
        for (Method m : c.getDeclaredMethods()) {
            tell(m.getParameterCount() <= MOST_PARAMETERS, m.getName() + " takes no more than seven");
        }
    }

    private static void lookAtSource(Path source) throws Exception {
        String text = Files.readString(source)
            .replaceAll("(?s)/\\*.*?\\*/", " ").replaceAll("//[^\n]*", " ");
        for (String word : RULED_OUT) {
            tell(!java.util.regex.Pattern.compile(word).matcher(text).find(), "the source has no " + word);
        }
    }

    /** A method begins with a line that ends in ") {" and ends with a brace below its first letter. */
    private static void lookAtLengths(Path source) throws Exception {
        int begun = 0;
        int number = 0;
        String end = null;
        for (String line : Files.readAllLines(source)) {
            number++;
            String indent = line.substring(0, line.length() - line.stripLeading().length());
            boolean member = indent.length() == 4 || indent.length() == 8;
            if (end == null && member && line.matches("\\s*[\\w\\[\\], ]+\\(.*\\) \\{")) {
                begun = number;
                end = indent + "}";
            } else if (line.equals(end)) {
                tell(number - begun < MOST_LINES, "the method of line " + begun + " is short");
                end = null;
            }
        }
        tell(begun > 0 && end == null, "the methods have been found");
    }

    public static void main(String[] args) throws Exception {
        Path source = Path.of(args.length > 0 ? args[0] : "src/main/java/EmberCache.java");
        lookAtFace();
        lookInside();
        lookAtSource(source);
        lookAtLengths(source);
        System.out.println(wrong == 0 ? "the face is as due" : wrong + " things do not hold");
        if (wrong != 0) System.exit(1);
    }
}
