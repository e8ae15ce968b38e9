import java.lang.reflect.Constructor;
import java.lang.reflect.Executable;
import java.lang.reflect.Field;
import java.lang.reflect.Method;
import java.lang.reflect.Modifier;
import java.nio.charset.StandardCharsets;
import java.nio.file.Files;
import java.nio.file.Path;
import java.util.Set;
import java.util.TreeSet;
import java.util.regex.Matcher;
import java.util.regex.Pattern;

/** The document's face and no other member, and the rules of LANGUAGE.md that can be seen in the source. */
public final class FaceTest {
    private static final String FACE = "int house(int) boolean lane(int,int,int) int pusher(int) int push(int,int)"
            + " boolean tip() boolean mend() int minute(int) int years(int,int) int feed(int,int,int,int,int) int end(int)"
            + " int text() int fault(int) boolean by(int) int played(int) int undo() int of(int,int) int two(int,int,int)"
            + " int barrow(int) int hard(int,int,int) int book(int,int) int foretold(int,int,int) int arrives()"
            + " int want(int,int) int fitting() int route(int) int least(int,int,int) int winner() int agenda(int,int)"
            + " boolean weight(int,int) int fair(int) int feel(int,int) int lost() int yard() int thieves()"
            + " int watch(int,int) int image() int back() int about(int)";

    private static Set<String> face() {
        Set<String> face = new TreeSet<>();
        Matcher m = Pattern.compile("(int|boolean) (\\w+\\([a-z,]*\\))").matcher(FACE);
        while (m.find()) {
            face.add(m.group());
        }
        return face;
    }

    private static String told(Method m) {
        StringBuilder b = new StringBuilder(m.getReturnType().getName()).append(' ').append(m.getName()).append('(');
        for (int i = 0; i < m.getParameterCount(); i++) {
            b.append(i > 0 ? "," : "").append(m.getParameterTypes()[i].getName());
        }
        return b.append(')').toString();
    }

    private static void members() {
        Class<?> c = NoonOnABarrow.class;
        Due.so("public and final", Modifier.isPublic(c.getModifiers()) && Modifier.isFinal(c.getModifiers()), true);
        Set<String> found = new TreeSet<>();
        Set<String> names = new TreeSet<>();
        for (Method m : c.getDeclaredMethods()) {
            if (!Modifier.isPrivate(m.getModifiers())) {
                found.add(told(m));
                names.add(m.getName());
            }
        }
        Due.so("the methods are the document's: " + found, found.equals(face()), true);
        for (Field f : c.getDeclaredFields()) {
            boolean open = !Modifier.isPrivate(f.getModifiers());
            Due.so("field " + f.getName(), open, f.getName().equals("NONE"));
        }
        Due.is("NONE", NoonOnABarrow.NONE, -1);
        Due.is("constructors", c.getDeclaredConstructors().length, 1);
        int classes = 1;
        for (Class<?> inside : c.getDeclaredClasses()) {
            classes++;
            Due.so(inside + " is static", Modifier.isStatic(inside.getModifiers()), true);
            Due.so(inside + " is not public", Modifier.isPublic(inside.getModifiers()), false);
            for (Method m : inside.getDeclaredMethods()) {
                Due.so(inside + " names none of the face: " + m.getName(), names.contains(m.getName()), false);
            }
            small(inside);
        }
        for (Method m : c.getDeclaredMethods()) {
            Due.so("private " + m.getName(), Modifier.isPrivate(m.getModifiers()) && names.contains(m.getName()), false);
        }
        small(c);
        Due.so("some twelve classes", classes <= 12, true);
    }

    private static void small(Class<?> c) {
        int fields = 0;
        for (Field f : c.getDeclaredFields()) {
            boolean fixed = Modifier.isStatic(f.getModifiers());
            fields += fixed ? 0 : 1;
            Due.so(c + "." + f.getName() + ", if static, is final", !fixed || Modifier.isFinal(f.getModifiers()), true);
        }
        Due.so(c + " has some twenty fields", fields <= 20, true);
        for (Executable e : c.getDeclaredMethods()) {
            Due.so(e + " takes seven at most", e.getParameterCount() <= 7, true);
        }
        for (Constructor<?> e : c.getDeclaredConstructors()) {
            Due.so(e + " takes seven at most", e.getParameterCount() <= 7, true);
        }
    }

    private static void source(Path file) throws java.io.IOException {
        String text = new String(Files.readAllBytes(file), StandardCharsets.ISO_8859_1);
        String code = text.replaceAll("(?s)/\\*.*?\\*/", "").replaceAll("//[^\\n]*", "");
        String bare = code.replaceAll("\"[^\"]*\"", "\"\"").replaceAll("'.'", "' '");
        String[] refused = {"\\bthrow\\b", "\\btry\\b", "\\bcatch\\b", "\\bsynchronized\\b", "\\bassert\\b", "\\bimport\\b",
            "\\bpackage\\b", "->", "::", "\\bObject\\b", "\\bprotected\\b", "\\bSystem\\.(?!arraycopy\\b)", "\\.ordinal\\b",
            "\\.hashCode\\b", "\\.toString\\b", "Exact\\b", "\\bstatic \\{", "\"\" \\+", "\\+ \"\"", "\\bdouble\\b", "\\bfloat\\b"};
        for (String r : refused) {
            Due.so("the source has " + r, Pattern.compile(r).matcher(bare).find(), false);
        }
        for (char sign : text.toCharArray()) {
            if (sign > 127) {
                Due.is("a sign of the source", sign, 127);
            }
        }
        int longest = 0;
        Matcher method = Pattern.compile("(?m)^( {4}| {8})(?:private |public |static |final )*[\\w\\[\\]]+ \\w+\\([^)]*\\) \\{\\n(?s:(.*?))^\\1\\}").matcher(text);
        int methods = 0;
        while (method.find()) {
            methods++;
            longest = Math.max(longest, method.group(2).split("\n").length + 2);
        }
        Due.so(methods + " methods, the longest of " + longest + " lines", methods > 100 && longest <= 60, true);
    }

    public static void main(String[] args) throws java.io.IOException {
        members();
        source(Path.of(System.getProperty("source", "src/main/java/NoonOnABarrow.java")));
        Due.close();
    }
}
