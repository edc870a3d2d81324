import java.io.IOException;
import java.lang.reflect.Constructor;
import java.lang.reflect.Field;
import java.lang.reflect.Method;
import java.lang.reflect.Modifier;
import java.nio.file.Files;
import java.nio.file.Path;
import java.util.Arrays;
import java.util.Set;
import java.util.TreeSet;
import java.util.regex.Matcher;
import java.util.regex.Pattern;

/** The public face, and the rules of LANGUAGE.md that can be seen from outside. */
public final class FaceTest {
    private static final String FACE = """
        boolean same()
        boolean type(int)
        int at(int)
        int fault()
        int kind(int,int) throws IndexOutOfBoundsException
        int length()
        int letter(int,int,int) throws IndexOutOfBoundsException
        int pick(int,int) throws IndexOutOfBoundsException
        int read(int) throws IndexOutOfBoundsException IllegalArgumentException
        int size(int,int) throws IndexOutOfBoundsException
        int values(int) throws IndexOutOfBoundsException
        int write(int) throws IndexOutOfBoundsException IllegalStateException UnsupportedOperationException
        long number(int,int) throws IndexOutOfBoundsException
        void swap()
        void wipe()
        """;

    public static void main(String[] args) throws IOException {
        face();
        nested();
        source();
        Check.end();
    }

    private static String told(Method m) {
        StringBuilder all = new StringBuilder(m.getReturnType().getName() + " " + m.getName() + "(");
        all.append(String.join(",", Arrays.stream(m.getParameterTypes()).map(Class::getName).toList())).append(")");
        Class<?>[] thrown = m.getExceptionTypes();
        for (int i = 0; i < thrown.length; i++) {
            all.append(i == 0 ? " throws " : " ").append(thrown[i].getSimpleName());
        }
        return all.toString();
    }

    private static void face() {
        Class<?> c = RollingTransit.class;
        Check.due("modifiers", Modifier.toString(c.getModifiers()), "public final");
        Constructor<?>[] made = c.getDeclaredConstructors();
        Check.due("constructors", made.length, 1);
        Check.due("constructor", made[0].toString(), "public RollingTransit()");
        Set<String> open = new TreeSet<>();
        Set<String> names = new TreeSet<>();
        for (Method m : c.getDeclaredMethods()) {
            if (!Modifier.isPrivate(m.getModifiers())) {
                Check.due("modifiers of " + m.getName(), Modifier.toString(m.getModifiers()), "public");
                open.add(told(m));
                names.add(m.getName());
            }
        }
        Check.due("methods", String.join("\n", open) + "\n", FACE);
        for (Method m : c.getDeclaredMethods()) {
            boolean hidden = Modifier.isPrivate(m.getModifiers());
            Check.due("own name of " + m.getName(), hidden && names.contains(m.getName()), false);
        }
        for (Field f : c.getDeclaredFields()) {
            String due = f.getName().equals("NONE") ? "public static final" : "private";
            Check.due("field " + f.getName(), Modifier.toString(f.getModifiers()).startsWith(due), true);
        }
        fields(c);
    }

    private static void fields(Class<?> c) {
        int own = 0;
        for (Field f : c.getDeclaredFields()) {
            boolean still = Modifier.isStatic(f.getModifiers());
            own += still ? 0 : 1;
            Check.due("final " + f.getName(), !still || Modifier.isFinal(f.getModifiers()), true);
        }
        Check.due("fields of " + c.getSimpleName() + " are few", own <= 20, true);
    }

    private static void nested() {
        Class<?>[] inside = RollingTransit.class.getDeclaredClasses();
        Check.due("few classes", inside.length < 12, true);
        for (Class<?> c : inside) {
            int m = c.getModifiers();
            Check.due("static " + c.getSimpleName(), Modifier.isStatic(m), true);
            Check.due("hidden " + c.getSimpleName(), Modifier.isPublic(m) || Modifier.isProtected(m), false);
            fields(c);
            for (Method method : c.getDeclaredMethods()) {
                Check.due("parameters of " + method.getName(), method.getParameterCount() <= 7, true);
            }
        }
    }

    private static void source() throws IOException {
        String source = Files.readString(Path.of("src/main/java/RollingTransit.java"));
        String code = bare(source);
        String[] ruledOut = {"->", "::", "\\bimport\\b", "\\bpackage\\b", "\\bfinally\\b", "\\bsynchronized\\b",
            "\\bassert\\b", "static\\s*\\{", "\\btry\\b", "\\bdouble\\b", "\\bfloat\\b", "\"\"\\s*\\+", "\\+\\s*\"\"",
            "\\bSystem\\.(?!arraycopy)", "\\bMath\\.\\w+Exact", "\\bhashCode\\b", "\\btoString\\b"};
        for (String rule : ruledOut) {
            Check.due("found " + rule, Pattern.compile(rule).matcher(code).find(), false);
        }
        Matcher thrown = Pattern.compile("\\bthrow\\b(?! new [A-Z]\\w+Exception\\(\\);)").matcher(code);
        Check.due("throws of another form", thrown.find(), false);
    }

    /** A source without its comments and without what stands in its texts and characters. */
    private static String bare(String source) {
        Pattern parts = Pattern.compile(
                "(?s:/\\*.*?\\*/)|//[^\\n]*|\"(?:[^\"\\\\\\n]|\\\\.)*+\"|'(?:\\\\.|[^'\\\\])'");
        return parts.matcher(source).replaceAll(found -> {
            char first = found.group().charAt(0);
            return first == '/' ? " " : first == '"' ? "\"\"" : "0";
        });
    }
}
