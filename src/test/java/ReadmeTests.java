import java.io.IOException;
import java.lang.reflect.Method;
import java.lang.reflect.Modifier;
import java.nio.file.Files;
import java.nio.file.Path;
import java.util.ArrayList;
import java.util.List;
import java.util.Set;
import java.util.TreeSet;
import java.util.regex.Matcher;
import java.util.regex.Pattern;
import java.util.stream.Stream;

/** README.md says how to use the class and how to run its tests: what it says must be so. */
public final class ReadmeTests {
    /** The example of README.md; example() makes the same calls. */
    private static final List<String> EXAMPLE = List.of("UnderPromise x = new UnderPromise();", "x.promise(0, 24, 60000);",
        "int car = x.thing(3, 5, 1000, 0);", "int judged = x.claim(car, 2, 7, 9, 100);", "x.maker(2, 4, 50);",
        "int paid = x.pays(4);", "int left = x.left();", "int failed = x.called(2, 255, 0, 119);",
        "int wrong = x.claim(car, 2, 7, 6, 100);");

    public static void main(String[] args) throws IOException {
        String page = Files.readString(Path.of("README.md"));
        Due.test("the example is as this test makes it", () -> exampleAsTold(page));
        Due.test("the example answers as README.md says", ReadmeTests::example);
        Due.test("every call of the face is told, and no other", () -> calls(page));
        Due.test("the answers of refused calls are told", () -> refusals(page));
        Set<String> tests = testsThere();
        Due.test("every program of tests is told, and no other", () -> tests(page, tests));
        Due.end();
    }

    private static void exampleAsTold(String page) {
        List<String> told = new ArrayList<>();
        int start = page.indexOf("```java\n") + 8;
        for (String line : page.substring(start, page.indexOf("```", start)).split("\n")) {
            told.add(line.replaceAll("//.*", "").strip());
        }
        Due.holds("the same calls: " + told, told.equals(EXAMPLE));
    }

    private static void example() {
        UnderPromise x = new UnderPromise();
        Due.is("promise", x.promise(0, 24, 60000), 1);
        int car = x.thing(3, 5, 1000, 0);
        Due.is("thing", car, 0);
        Due.is("claim", x.claim(car, 2, 7, 9, 100), 0);
        Due.is("maker", x.maker(2, 4, 50), 1);
        Due.is("pays", x.pays(4), 50);
        Due.is("left", x.left(), 50);
        Due.is("called", x.called(2, 255, 0, 119), 0);
        long digest = x.digest();
        Due.is("claim, told before it failed", x.claim(car, 2, 7, 6, 100), -2);
        Due.is("nothing is changed", x.digest(), digest);
    }

    private static void calls(String page) {
        Set<String> told = new TreeSet<>(), there = new TreeSet<>();
        Matcher row = Pattern.compile("\n\\| `(\\w+)\\(([^)]*)\\)` \\|").matcher(page);
        while (row.find()) told.add(row.group(1) + " of " + (row.group(2).isEmpty() ? 0 : row.group(2).split(", ").length));
        for (Method m : UnderPromise.class.getDeclaredMethods()) {
            if (Modifier.isPublic(m.getModifiers())) there.add(m.getName() + " of " + m.getParameterCount());
        }
        Due.holds("told: " + told + ", there: " + there, told.equals(there));
    }

    private static void refusals(String page) {
        Due.holds("BAD", page.contains("`BAD` (" + UnderPromise.BAD + ":"));
        Due.holds("NO", page.contains("`NO` (" + UnderPromise.NO + ")"));
        Due.holds("FULL", page.contains("`FULL` (" + UnderPromise.FULL + ")"));
        Due.holds("NONE", page.contains("`NONE` (" + UnderPromise.NONE + ")"));
    }

    private static Set<String> testsThere() throws IOException {
        Set<String> there = new TreeSet<>();
        try (Stream<Path> files = Files.list(Path.of("src/test/java"))) {
            files.map(Path::toString).filter(name -> name.endsWith("Tests.java")).forEach(there::add);
        }
        return there;
    }

    private static void tests(String page, Set<String> there) {
        Set<String> told = new TreeSet<>();
        Matcher name = Pattern.compile("`(src/test/java/\\w+Tests\\.java)`").matcher(page);
        while (name.find()) told.add(name.group(1));
        Due.holds("told: " + told + ", there: " + there, told.equals(there));
        Due.holds(".ci/run is told and may be run", page.contains("\n.ci/run\n") && Files.isExecutable(Path.of(".ci/run")));
    }
}
