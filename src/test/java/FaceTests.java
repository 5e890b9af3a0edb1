import java.io.IOException;
import java.lang.reflect.Constructor;
import java.lang.reflect.Field;
import java.lang.reflect.Method;
import java.lang.reflect.Modifier;
import java.nio.file.Files;
import java.nio.file.Path;
import java.util.Set;
import java.util.TreeSet;
import java.util.regex.Matcher;
import java.util.regex.Pattern;

/** The public face as the document's, and those rules of LANGUAGE.md that a reading of the text can tell. */
public final class FaceTests {
    private static final Set<String> FACE = Set.of("int thing(int,int,int,int)", "int promise(int,int,int)", "int again(int)",
        "int promised(int,int)", "int last(int)", "int claim(int,int,int,int,int)", "int about(int,int)",
        "int table(int,int,int)", "int exposed(int,int)", "int rate(int,int,int)", "int delays(int,int)",
        "int undone(int,int)", "long chance(int,int,int,int)", "int oddest(int,int)", "int under(int,int)",
        "int maker(int,int,int)", "int payer(int)", "int pays(int)", "int left()", "int called(int,int,int,int)",
        "int calledAt(int,int,int,int,int)", "int count(int)", "long digest()");

    public static void main(String[] args) throws IOException {
        String source = withoutComments(Files.readString(Path.of(args.length > 0 ? args[0] : "src/main/java/UnderPromise.java")));
        Due.test("the face is the document's", FaceTests::face);
        Due.test("no private method bears a public one's name", FaceTests::privateNames);
        Due.test("fields and classes inside", FaceTests::fieldsAndClasses);
        Due.test("words that the language leaves out", () -> words(source));
        Due.test("short methods, few parameters", () -> methods(source));
        Due.test("no call makes an object: all share one room", () -> made(source));
        Due.end();
    }

    private static String withoutComments(String source) {
        return source.replaceAll("(?s)/\\*.*?\\*/", "").replaceAll("//[^\n]*", "");
    }

    private static void face() {
        Set<String> seen = new TreeSet<>();
        for (Method m : UnderPromise.class.getDeclaredMethods()) {
            if (Modifier.isPrivate(m.getModifiers())) continue;
            String text = m.getReturnType() + " " + m.getName() + "(";
            for (Class<?> p : m.getParameterTypes()) text += (text.endsWith("(") ? "" : ",") + p;
            seen.add(text + ")");
            Due.holds(m + " is public and no static one", m.getModifiers() == Modifier.PUBLIC);
        }
        Due.holds("methods as told: " + seen, seen.equals(new TreeSet<>(FACE)));
        Due.holds("public and final", UnderPromise.class.getModifiers() == (Modifier.PUBLIC | Modifier.FINAL));
        Constructor<?>[] made = UnderPromise.class.getDeclaredConstructors();
        Due.holds("one public constructor", made.length == 1 && made[0].getParameterCount() == 0
            && made[0].getModifiers() == Modifier.PUBLIC);
        Set<String> constants = new TreeSet<>();
        for (Field f : UnderPromise.class.getDeclaredFields()) {
            if (!Modifier.isPrivate(f.getModifiers())) constants.add(Modifier.toString(f.getModifiers()) + " " + f.getType() + " " + f.getName());
        }
        Due.holds("constants as told: " + constants, constants.equals(new TreeSet<>(Set.of("public static final int NONE",
            "public static final int BAD", "public static final int NO", "public static final int FULL"))));
    }

    private static void privateNames() {
        Set<String> open = new TreeSet<>();
        for (String text : FACE) open.add(text.substring(text.indexOf(' ') + 1, text.indexOf('(')));
        for (Method m : UnderPromise.class.getDeclaredMethods()) {
            Due.holds(m.getName(), Modifier.isPublic(m.getModifiers()) || !open.contains(m.getName()));
        }
        for (Class<?> inside : UnderPromise.class.getDeclaredClasses()) {
            for (Method m : inside.getDeclaredMethods()) Due.holds(m.getName() + " inside", !open.contains(m.getName()));
        }
    }

    private static void fieldsAndClasses() {
        Class<?>[] inside = UnderPromise.class.getDeclaredClasses();
        Due.holds("some twelve classes", inside.length <= 12);
        fields(UnderPromise.class);
        for (Class<?> c : inside) {
            Due.holds(c + " is static and not public", Modifier.isStatic(c.getModifiers()) && !Modifier.isPublic(c.getModifiers()));
            fields(c);
        }
    }

    private static void fields(Class<?> c) {
        int own = 0;
        for (Field f : c.getDeclaredFields()) {
            boolean isStatic = Modifier.isStatic(f.getModifiers());
            if (!isStatic) own++;
            Due.holds(f + " is final, as all static ones", !isStatic || Modifier.isFinal(f.getModifiers()));
            Due.holds(f + " is an int or a long, if static", !isStatic || f.getType() == int.class || f.getType() == long.class);
        }
        Due.holds(c + " has some twenty fields", own <= 20);
    }

    private static void words(String source) {
        String[] out = {"import", "package", "throw", "throws", "try", "catch", "finally", "synchronized", "assert",
            "protected", "equals", "hashCode", "toString", "volatile", "transient", "native", "var", "Object", "System",
            "double", "float", "instanceof", "yield"};
        for (String word : out) {
            Due.holds("no " + word, !Pattern.compile("\\b" + word + "\\b").matcher(source).find());
        }
        Due.holds("no lambda", !source.contains("->"));
        Due.holds("no method reference", !source.contains("::"));
        Due.holds("no texts", source.indexOf('"') < 0);
        Due.holds("no mark", source.indexOf('@') < 0);
        Due.holds("signs 1 to 127", source.chars().allMatch(c -> c > 0 && c < 128));
        Matcher library = Pattern.compile("\\b(Math|Long|Integer|Arrays)\\.(\\w+)").matcher(source);
        while (library.find()) {
            String used = library.group(2);
            Due.holds(library.group() + " is listed", Set.of("compare", "max", "min", "abs", "bitCount", "floorDiv", "floorMod").contains(used));
        }
    }

    private static void methods(String source) {
        Matcher head = Pattern.compile("\n( +)[\\w\\[\\]<> ]+\\(([^()]*)\\) \\{\n(.*?)\n\\1\\}", Pattern.DOTALL).matcher(source);
        int seen = 0;
        while (head.find()) {
            seen++;
            long lines = head.group(3).chars().filter(c -> c == '\n').count() + 1;
            Due.holds("a method of " + lines + " lines", lines <= 60);
            Due.holds("parameters: " + head.group(2), head.group(2).split(",").length <= 7);
        }
        Due.holds("methods were seen: " + seen, seen >= 24);
    }

    /** Rows are made in fields, what holds them in constructors; texts, which would be objects too, are left out above. */
    private static void made(String source) {
        int seen = 0;
        for (String line : source.split("\n")) {
            if (!Pattern.compile("\\bnew\\b|\\bclone\\b|\\bcopyOf").matcher(line).find()) continue;
            seen++;
            Due.holds("made in a field or a constructor: " + line,
                line.matches(" +private final \\w+\\[\\](\\[\\])? \\w+ = new .*|        \\w+ = new [A-Z]\\w+\\(\\);"));
        }
        Due.holds("rows were seen: " + seen, seen > 4);
    }
}
