import java.io.IOException;
import java.lang.reflect.Method;
import java.lang.reflect.Modifier;
import java.net.MalformedURLException;
import java.net.URL;
import java.net.URLClassLoader;
import java.nio.charset.StandardCharsets;
import java.nio.file.Files;
import java.nio.file.Path;
import java.util.ArrayList;
import java.util.Comparator;
import java.util.List;
import java.util.regex.Matcher;
import java.util.regex.Pattern;
import java.util.stream.Stream;
import javax.tools.ToolProvider;

/** README.md: its Java compiles as it stands there and answers what it says, and no call of the face is left out. */
public final class ReadmeTest {
    private static final Path README = Path.of("README.md");
    private static final Pattern BLOCK = Pattern.compile("(?ms)^```java\n(.*?)^```$");
    private static final Pattern ANSWER = Pattern.compile("^(x\\..*\\)); *// (-?\\d+|true|false):.*$");

    private static int answers = 0;

    public static void main(String[] args) throws Exception {
        String readme = Files.readString(README, StandardCharsets.UTF_8);
        callsAreNamed(readme);
        Path place = Files.createTempDirectory("readme");
        try {
            run(place, asProgram(readme));
        } finally {
            remove(place);
        }
        Check.is("answers that README.md tells are looked at", answers >= 40 ? 1 : 0, 1);
        Check.end();
    }

    /** For the program that is made of the page. */
    public static void due(String call, Object got, String told) {
        answers++;
        Check.is(call + " answered " + got + ", README.md says " + told, got.toString().equals(told) ? 1 : 0, 1);
    }

    private static void callsAreNamed(String readme) {
        for (Method m : PenSwings.class.getDeclaredMethods()) {
            if (Modifier.isPublic(m.getModifiers())) {
                boolean named = readme.contains("`" + m.getName() + "`");
                boolean shown = readme.contains("x." + m.getName() + "(");
                Check.is("README.md names " + m.getName(), named ? 1 : 0, 1);
                Check.is("README.md shows " + m.getName(), shown ? 1 : 0, 1);
            }
        }
    }

    private static String asProgram(String readme) {
        StringBuilder members = new StringBuilder();
        StringBuilder statements = new StringBuilder();
        Matcher block = BLOCK.matcher(readme);
        while (block.find()) {
            if (block.group(1).startsWith("static ")) {
                members.append(block.group(1));
            } else {
                block.group(1).lines().map(ReadmeTest::asked).forEach(l -> statements.append(l).append('\n'));
            }
        }
        return "public final class Readme {\n" + members + "public static void main(String[] args) {\n" + statements + "}\n}\n";
    }

    private static String asked(String line) {
        Matcher answer = ANSWER.matcher(line);
        if (!answer.matches()) {
            return line;
        }
        String call = answer.group(1);
        return "ReadmeTest.due(\"" + call.replace("\"", "'") + "\", " + call + ", \"" + answer.group(2) + "\");";
    }

    private static void run(Path place, String program) throws Exception {
        Path source = place.resolve("Readme.java");
        Files.writeString(source, program, StandardCharsets.UTF_8);
        int failed = ToolProvider.getSystemJavaCompiler().run(null, null, null, "-cp",
            System.getProperty("java.class.path"), "-d", place.toString(), source.toString());
        Check.is("the Java of README.md compiles", failed, 0);
        if (failed == 0) {
            runMain(place);
        }
    }

    private static void runMain(Path place) throws Exception {
        try (URLClassLoader loader = new URLClassLoader(new URL[] {asUrl(place)}, ReadmeTest.class.getClassLoader())) {
            Method main = loader.loadClass("Readme").getMethod("main", String[].class);
            main.invoke(null, (Object) new String[0]);
        }
    }

    private static URL asUrl(Path place) throws MalformedURLException {
        return place.toUri().toURL();
    }

    private static void remove(Path place) throws IOException {
        List<Path> all = new ArrayList<>();
        try (Stream<Path> walk = Files.walk(place)) {
            walk.sorted(Comparator.reverseOrder()).forEach(all::add);
        }
        for (Path one : all) {
            Files.delete(one);
        }
    }
}
