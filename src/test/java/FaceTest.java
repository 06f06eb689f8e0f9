import java.io.IOException;
import java.lang.reflect.Constructor;
import java.lang.reflect.Field;
import java.lang.reflect.Method;
import java.lang.reflect.Modifier;
import java.nio.file.Files;
import java.nio.file.Path;
import java.util.ArrayList;
import java.util.Arrays;
import java.util.HashSet;
import java.util.List;
import java.util.Set;
import java.util.TreeSet;
import java.util.regex.Matcher;
import java.util.regex.Pattern;

/** The public face is the document's and no more, and the program keeps to what of LANGUAGE.md can be seen here. */
public final class FaceTest {
    private static final String A = " IllegalArgumentException";
    private static final String S = " IllegalStateException";
    private static final String B = " IndexOutOfBoundsException";
    private static final String[] FACE = {
        "void make int int int" + A,
        "boolean put int int int" + A + B,
        "boolean remove int int" + A,
        "int get int int" + A + B,
        "int near int int int" + A + B,
        "int size int" + A,
        "int rank int int" + A,
        "int select int int" + A + B,
        "long sum int int" + A,
        "void range int int int int" + A,
        "int within int int" + A + B,
        "boolean putWithin int int int" + A + B,
        "int poll int boolean" + A + B,
        "void iterate int boolean" + A,
        "int next int" + A + S + B,
        "void drop int" + A + S,
        "int join int int int" + A + B,
        "int split int int int" + A,
        "int changes int" + A,
        "boolean audit int" + A,
    };
    private static final String[] RULED_OUT = {
        "import ", "package ", "->", "::", "finally", "synchronized", "assert ", "static {", "@", "System.",
        "hashCode", "getMessage", "Random", "Exact("
    };

    public static void main(String[] args) throws IOException {
        face();
        otherMembersArePrivate();
        classesInside();
        text();
        Check.end();
    }

    private static void face() {
        Check.yes("public", Modifier.isPublic(TreeFamily.class.getModifiers()));
        Check.yes("final", Modifier.isFinal(TreeFamily.class.getModifiers()));
        Constructor<?>[] made = TreeFamily.class.getDeclaredConstructors();
        Check.same("constructors", 1, made.length);
        Check.yes("public constructor", Modifier.isPublic(made[0].getModifiers()));
        Check.same("constructor's parameters", 0, made[0].getParameterCount());
        Set<String> got = new TreeSet<>();
        for (Method method : TreeFamily.class.getDeclaredMethods()) {
            if (Modifier.isPublic(method.getModifiers())) {
                got.add(describe(method));
                Check.no(method + " is static", Modifier.isStatic(method.getModifiers()));
            }
        }
        Check.same("face", new TreeSet<>(Arrays.asList(FACE)).toString(), got.toString());
    }

    private static String describe(Method method) {
        StringBuilder text = new StringBuilder(method.getReturnType().getName() + " " + method.getName());
        for (Class<?> type : method.getParameterTypes()) {
            text.append(' ').append(type.getName());
        }
        for (Class<?> type : method.getExceptionTypes()) {
            text.append(' ').append(type.getSimpleName());
        }
        return text.toString();
    }

    private static void otherMembersArePrivate() {
        Set<String> names = new HashSet<>();
        for (String line : FACE) {
            names.add(line.split(" ")[1]);
        }
        for (Method method : TreeFamily.class.getDeclaredMethods()) {
            if (!Modifier.isPublic(method.getModifiers())) {
                Check.yes(method + " is private", Modifier.isPrivate(method.getModifiers()));
                Check.no(method + " has a public one's name", names.contains(method.getName()));
            }
        }
        for (Field field : TreeFamily.class.getDeclaredFields()) {
            Check.yes(field + " is private", Modifier.isPrivate(field.getModifiers()));
        }
        for (Class<?> inside : TreeFamily.class.getDeclaredClasses()) {
            for (Method method : inside.getDeclaredMethods()) {
                Check.no(method + " has a public one's name", names.contains(method.getName()));
            }
        }
    }

    private static void classesInside() {
        List<Class<?>> all = new ArrayList<>(Arrays.asList(TreeFamily.class.getDeclaredClasses()));
        Check.yes("twelve classes at most", all.size() + 1 <= 12);
        all.add(TreeFamily.class);
        for (Class<?> one : all) {
            if (one != TreeFamily.class) {
                Check.yes(one + " is static", Modifier.isStatic(one.getModifiers()));
                Check.no(one + " is public", Modifier.isPublic(one.getModifiers()));
            }
            int fields = 0;
            for (Field field : one.getDeclaredFields()) {
                boolean isStatic = Modifier.isStatic(field.getModifiers());
                fields += isStatic ? 0 : 1;
                Check.yes(field + " is constant", !isStatic || Modifier.isFinal(field.getModifiers()));
            }
            Check.yes(one + " has twenty fields at most", fields <= 20);
            for (Method method : one.getDeclaredMethods()) {
                Check.yes(method + " has seven parameters at most", method.getParameterCount() <= 7);
            }
        }
    }

    private static void text() throws IOException {
        String source = Files.readString(Path.of("src/main/java/TreeFamily.java"));
        String code = source.replaceAll("(?s)/\\*.*?\\*/", "").replaceAll("//[^\n]*", "");
        for (String word : RULED_OUT) {
            Check.no("the program has " + word, code.contains(word));
        }
        throwsAreWritten(code);
        methodsAreShort(code);
        for (int i = 0; i < source.length(); i++) {
            if (source.charAt(i) > 126) {
                Check.fail("a character beyond ASCII at " + i);
            }
        }
    }

    /** Rule 6: a throw makes one of the document's exceptions there and then, with a text or without one. */
    private static void throwsAreWritten(String code) {
        String form = "throw new Illegal(State|Argument)Exception|throw new IndexOutOfBoundsException";
        String rest = code.replaceAll("(" + form + ")\\((\"[^\"]*\")?\\);", "");
        Check.no("a throw of another form", rest.matches("(?s).*\\bthrow\\b.*"));
    }

    /** Rule 11, by the way the file is indented: a method begins with a brace and ends at the same depth. */
    private static void methodsAreShort(String code) {
        for (String indent : new String[] {"    ", "        "}) {
            Pattern method = Pattern.compile("(?m)^" + indent + "(\\w.*\\)[^\n;]*|\\w.*\\)\n.*throws.*) \\{\n");
            Matcher begin = method.matcher(code);
            while (begin.find()) {
                String body = code.substring(begin.end(), code.indexOf("\n" + indent + "}", begin.end()));
                Check.yes("sixty lines at most: " + begin.group().trim(), body.lines().count() <= 60);
            }
        }
    }
}
