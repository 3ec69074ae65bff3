import java.io.IOException;
import java.lang.reflect.Constructor;
import java.lang.reflect.Field;
import java.lang.reflect.Method;
import java.lang.reflect.Modifier;
import java.nio.charset.StandardCharsets;
import java.nio.file.Files;
import java.nio.file.Path;
import java.util.Arrays;
import java.util.Set;
import java.util.TreeSet;
import java.util.regex.Matcher;
import java.util.regex.Pattern;

/** The public face, and those rules of LANGUAGE.md that reflection or a look at the source can tell. */
public final class FaceTest {
    private static final Path SOURCE = Path.of("src/main/java/HalfByFive.java");
    private static final String FACE = "int market(int,int);int bring(int);int price(int,int);int theirs(int,int);"
        + "int rain(int);int buyer(int,int,int,int);int type(int);int clear();int read();int day();int undo();"
        + "int of(int,int);int about(int,int);int takes(int);int to(int,int);int best(int,int,int,int);"
        + "int brings(int);int come(int);int stalls(int,int,int);int mean(int);int shout(int);int sold(int,int);"
        + "int forget();int may(int);int drawn(int,int,int);long part(int);int image(int);int from(int);"
        + "int status(int);int count(int);long digest()";
    private static final Due due = new Due();

    public static void main(String[] args) throws IOException {
        face();
        classesInside();
        source(new String(Files.readAllBytes(SOURCE), StandardCharsets.ISO_8859_1));
        due.end();
    }

    private static void same(String what, Set<String> got, Set<String> want) {
        due.holds(what + ": " + got, got.equals(want));
    }

    private static void face() {
        due.in("the face");
        Class<?> c = HalfByFive.class;
        due.is("public and final", c.getModifiers(), Modifier.PUBLIC | Modifier.FINAL);
        Set<String> methods = new TreeSet<>();
        Set<String> hidden = new TreeSet<>();
        for (Method m : c.getDeclaredMethods()) {
            if (Modifier.isPrivate(m.getModifiers())) hidden.add(m.getName());
            else methods.add(told(m));
        }
        same("methods", methods, new TreeSet<>(Arrays.asList(FACE.split(";"))));
        for (String name : hidden) due.holds("no private " + name, !isOfTheFace(name));
        Set<String> fields = new TreeSet<>();
        for (Field f : c.getDeclaredFields()) {
            if (!Modifier.isPrivate(f.getModifiers())) fields.add(Modifier.toString(f.getModifiers()) + " " + f.getName());
        }
        String constant = "public static final ";
        same("fields", fields, Set.of(constant + "NONE", constant + "BAD", constant + "NO", constant + "FULL"));
        Constructor<?>[] made = c.getDeclaredConstructors();
        due.is("constructors", made.length, 1);
        due.holds("public HalfByFive()", Modifier.isPublic(made[0].getModifiers()) && made[0].getParameterCount() == 0);
    }

    private static boolean isOfTheFace(String name) {
        return FACE.matches("(.*[ ;])?" + name + "\\(.*");
    }

    private static String told(Method m) {
        if (m.getModifiers() != Modifier.PUBLIC) return "not public alone: " + m;
        StringBuilder s = new StringBuilder(m.getReturnType().getName() + " " + m.getName() + "(");
        for (Class<?> p : m.getParameterTypes()) s.append(s.charAt(s.length() - 1) == '(' ? "" : ",").append(p.getName());
        return s.append(")").toString();
    }

    private static void classesInside() {
        due.in("rules 1, 2, 5, 11");
        Class<?>[] inside = HalfByFive.class.getDeclaredClasses();
        due.holds("some twelve classes", inside.length < 12);
        for (Class<?> c : inside) {
            due.holds(c + " is static", Modifier.isStatic(c.getModifiers()));
            due.holds(c + " is not public or protected", (c.getModifiers() & (Modifier.PUBLIC | Modifier.PROTECTED)) == 0);
            for (Method m : c.getDeclaredMethods()) due.holds(m + " has a name of its own", !isOfTheFace(m.getName()));
            members(c);
        }
        members(HalfByFive.class);
    }

    private static void members(Class<?> c) {
        int fields = 0;
        for (Field f : c.getDeclaredFields()) {
            if (!Modifier.isStatic(f.getModifiers())) fields++;
            else due.holds(f + " is final", Modifier.isFinal(f.getModifiers()));
        }
        due.holds(c + " has some twenty fields", fields <= 20);
        for (Method m : c.getDeclaredMethods()) {
            due.holds(m + " has at most seven parameters", m.getParameterCount() <= 7);
        }
    }

    private static void source(String text) {
        due.in("rules 2 to 6");
        due.holds("signs 1 to 126 alone", text.matches("[\\n\\x20-\\x7e]*"));
        String code = text.replaceAll("(?s)/\\*.*?\\*/", "").replaceAll("//[^\\n]*", "").replaceAll("\"[^\"]*\"", "\"\"");
        String[] ruledOut = {"throw", "throws", "try", "catch", "synchronized", "assert", "package", "protected", "volatile",
            "native", "System\\.(?!arraycopy)", "\\w*Exact", "hashCode", "toString", "random", "Thread", "Object",
            "import (?!java\\.util\\.Arrays;)"};
        for (String word : ruledOut) {
            Matcher m = Pattern.compile("\\b" + word + "\\b").matcher(code);
            due.holds("no " + word, !m.find());
        }
        for (String sign : new String[] {"->", "::", "@", "while (true)", "for (;;)"}) {
            due.holds("no " + sign, !code.contains(sign));
        }
        library(code);
        methodLengths(text);
    }

    private static void library(String code) {
        due.in("rule 4");
        Set<String> listed = Set.of("Arrays.fill", "System.arraycopy", "Math.max", "Math.min", "Integer.bitCount");
        Matcher m = Pattern.compile("\\b([A-Z]\\w*\\.\\w+)\\(").matcher(code);
        while (m.find()) due.holds(m.group(1) + " is of the library that is listed", listed.contains(m.group(1)));
    }

    private static void methodLengths(String text) {
        due.in("rule 11");
        Matcher m = Pattern.compile("(?ms)^( {4}| {8})([^ \\n][^\\n]*\\)) \\{\\n(.*?)^\\1\\}\\n").matcher(text);
        int methods = 0;
        while (m.find()) {
            methods++;
            due.holds(m.group(2) + " is short", m.group(3).split("\n").length <= 60);
        }
        due.holds("methods were found", methods > HalfByFive.class.getDeclaredMethods().length);
    }
}
