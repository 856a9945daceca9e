import java.io.BufferedReader;
import java.io.ByteArrayOutputStream;
import java.io.IOException;
import java.io.InputStreamReader;
import java.io.OutputStream;
import java.io.PrintStream;
import java.io.Writer;
import java.lang.reflect.Method;
import java.net.URI;
import java.nio.charset.StandardCharsets;
import java.nio.file.Files;
import java.nio.file.Path;
import java.util.ArrayList;
import java.util.HashMap;
import java.util.LinkedHashMap;
import java.util.List;
import java.util.Map;
import java.util.concurrent.ConcurrentHashMap;
import java.util.regex.Matcher;
import java.util.regex.Pattern;
import javax.tools.FileObject;
import javax.tools.ForwardingJavaFileManager;
import javax.tools.JavaCompiler;
import javax.tools.JavaFileManager;
import javax.tools.JavaFileObject;
import javax.tools.SimpleJavaFileObject;
import javax.tools.StandardJavaFileManager;
import javax.tools.ToolProvider;

/**
 * No test, but a look at the tests: the class is changed in one place, again and again, and EdgesTest should notice.
 * java -cp CLASSES Mutants CLASSES, from the project's directory; it tells the changes that no sentence's test noticed
 * (those that are left make no difference), and of each sentence the change that the fewest others noticed, too.
 */
public final class Mutants {
    private static final Path SOURCE = Path.of("src", "main", "java", "PenSwings.java");
    private static final int PATIENCE_SECONDS = 15;
    private static final String[][] OPERATORS = {{"<=", "<"}, {">=", ">"}, {"==", "!="}, {"!=", "=="}, {"<", "<="}, {">", ">="},
        {"&&", "||"}, {"||", "&&"}, {"++", "--"}, {"--", "++"}, {"+=", "-="}, {"-=", "+="}, {"+", "-"}, {"-", "+"}, {"*", "+"},
        {"/", "*"}, {"%", "*"}, {"!", ""}};
    private static final Pattern PIECE = Pattern.compile("//[^\n]*|/\\*.*?\\*/|\"[^\"]*\"|'[^']*'|[A-Za-z_]\\w*|\\d+"
        + "|>>>|>>|<<|\\|=|&=|<=|>=|==|!=|&&|\\|\\||\\+\\+|--|\\+=|-=|[-+*/%<>!]", Pattern.DOTALL);
    private static final Pattern STATEMENT = Pattern.compile("(?m)^ +(?!return|int |boolean |final |private |static |break|continue|throw"
        + "|import|public|Score |case)[A-Za-z][^\n]*;$");

    /** One place of the source, and what stands there instead. */
    private record Change(int from, int to, String text) {
        String in(String source) {
            return source.substring(0, from) + text + source.substring(to);
        }

        String told(String source) {
            int line = 1 + (int) source.substring(0, from).chars().filter(c -> c == '\n').count();
            return "line " + line + ": " + source.substring(from, to).trim() + " -> " + (text.isEmpty() ? "nothing" : text);
        }
    }

    private Mutants() {
    }

    private static List<Change> changes(String source) {
        List<Change> all = new ArrayList<>();
        Matcher m = PIECE.matcher(source);
        while (m.find()) {
            String piece = m.group();
            if (piece.matches("\\d+")) {
                int n = Integer.parseInt(piece);
                all.add(new Change(m.start(), m.end(), "" + (n + 1)));
                all.add(new Change(m.start(), m.end(), "(" + (n - 1) + ")"));
            } else if (piece.equals("true") || piece.equals("false")) {
                all.add(new Change(m.start(), m.end(), piece.equals("true") ? "false" : "true"));
            }
            for (String[] operator : OPERATORS) {
                if (piece.equals(operator[0])) {
                    all.add(new Change(m.start(), m.end(), operator[1]));
                }
            }
        }
        Matcher s = STATEMENT.matcher(source);
        while (s.find()) {
            all.add(new Change(s.start(), s.end(), ""));
        }
        return all;
    }

    private static final class Text extends SimpleJavaFileObject {
        private final String source;

        Text(String source) {
            super(URI.create("string:///PenSwings.java"), Kind.SOURCE);
            this.source = source;
        }

        @Override
        public CharSequence getCharContent(boolean ignoreErrors) {
            return source;
        }
    }

    private static final class Compiled extends SimpleJavaFileObject {
        final ByteArrayOutputStream bytes = new ByteArrayOutputStream();

        Compiled(String name) {
            super(URI.create("mem:///" + name + ".class"), Kind.CLASS);
        }

        @Override
        public OutputStream openOutputStream() {
            return bytes;
        }
    }

    private static final class Memory extends ForwardingJavaFileManager<StandardJavaFileManager> {
        final Map<String, Compiled> classes = new HashMap<>();

        Memory(StandardJavaFileManager files) {
            super(files);
        }

        @Override
        public JavaFileObject getJavaFileForOutput(JavaFileManager.Location where, String name, JavaFileObject.Kind kind, FileObject near) {
            return classes.computeIfAbsent(name, Compiled::new);
        }
    }

    /** The changed class and the tests beside it, all anew, so that no state is shared. */
    private static final class Loader extends ClassLoader {
        private final Map<String, Compiled> changed;
        private final Path tests;

        Loader(Map<String, Compiled> changed, Path tests) {
            super(ClassLoader.getPlatformClassLoader());
            this.changed = changed;
            this.tests = tests;
        }

        @Override
        protected Class<?> findClass(String name) throws ClassNotFoundException {
            try {
                byte[] bytes = changed.containsKey(name) ? changed.get(name).bytes.toByteArray()
                    : Files.readAllBytes(tests.resolve(name + ".class"));
                return defineClass(name, bytes, 0, bytes.length);
            } catch (IOException e) {
                throw new ClassNotFoundException(name, e);
            }
        }
    }

    /** What EdgesTest says of a changed source; null, if it is no Java. */
    private static List<String> noticed(String source, Path tests) throws Exception {
        JavaCompiler compiler = ToolProvider.getSystemJavaCompiler();
        try (Memory memory = new Memory(compiler.getStandardFileManager(null, null, null))) {
            boolean good = compiler.getTask(Unread.NONE, memory, d -> { }, List.of("-proc:none"), null,
                List.of(new Text(source))).call();
            if (!good) {
                return null;
            }
            Method broken = new Loader(memory.classes, tests).loadClass("EdgesTest").getDeclaredMethod("broken");
            broken.setAccessible(true);
            List<String> names = new ArrayList<>();
            for (Object name : (List<?>) broken.invoke(null)) {
                names.add(name.toString());
            }
            return names;
        }
    }

    /** For a compiler's words, which nobody reads. */
    private static final class Unread extends Writer {
        static final Unread NONE = new Unread();

        @Override
        public void write(char[] text, int from, int length) {
        }

        @Override
        public void flush() {
        }

        @Override
        public void close() {
        }
    }

    public static void main(String[] args) throws Exception {
        String source = Files.readString(SOURCE);
        List<Change> changes = changes(source);
        if (args.length > 1) {
            work(source, changes, Path.of(args[0]), Integer.parseInt(args[1]), Integer.parseInt(args[2]));
            return;
        }
        int workers = Runtime.getRuntime().availableProcessors();
        List<Thread> threads = new ArrayList<>();
        for (int w = 0; w < workers; w++) {
            int first = w;
            threads.add(new Thread(() -> watch(args[0], first, workers, changes.size())));
            threads.get(w).start();
        }
        for (Thread thread : threads) {
            thread.join();
        }
        tell(source, changes);
    }

    /** One change after another, each told by its number and then a line for each sentence whose test noticed it. */
    private static void work(String source, List<Change> changes, Path tests, int first, int step) throws Exception {
        PrintStream out = System.out;
        System.setOut(new PrintStream(OutputStream.nullOutputStream()));
        for (int i = first; i < changes.size(); i += step) {
            List<String> names = noticed(changes.get(i).in(source), tests);
            out.println(names == null ? "not java" : String.join("\n", names));
            out.println("end " + i);
            out.flush();
        }
    }

    private static final Map<Integer, List<String>> ANSWERS = new ConcurrentHashMap<>();

    /** A worker of its own process, so that one that does not come to an end can be stopped. */
    private static void watch(String tests, int first, int step, int size) {
        int next = first;
        while (next < size) {
            try {
                Process worker = new ProcessBuilder(Path.of(System.getProperty("java.home"), "bin", "java").toString(), "-cp", tests,
                    "Mutants", tests, "" + next, "" + step).redirectError(ProcessBuilder.Redirect.DISCARD).start();
                next = read(worker, next, step, size);
                worker.destroyForcibly();
            } catch (IOException | InterruptedException e) {
                return;
            }
        }
    }

    private static int read(Process worker, int first, int step, int size) throws IOException, InterruptedException {
        int next = first;
        List<String> names = new ArrayList<>();
        BufferedReader lines = new BufferedReader(new InputStreamReader(worker.getInputStream(), StandardCharsets.UTF_8));
        long patience = System.currentTimeMillis() + 1000L * PATIENCE_SECONDS;
        while (next < size) {
            if (lines.ready()) {
                String line = lines.readLine();
                if (line.startsWith("end ")) {
                    ANSWERS.put(next, names);
                    names = new ArrayList<>();
                    next += step;
                    patience = System.currentTimeMillis() + 1000L * PATIENCE_SECONDS;
                } else if (!line.isEmpty()) {
                    names.add(line);
                }
            } else if (!worker.isAlive() && !lines.ready() || System.currentTimeMillis() > patience) {
                ANSWERS.put(next, List.of("no end, or an error"));
                return next + step;
            } else {
                Thread.sleep(5);
            }
        }
        return next;
    }

    private static void tell(String source, List<Change> changes) {
        Map<String, Integer> fewest = new LinkedHashMap<>();
        Map<String, String> sharpest = new LinkedHashMap<>();
        int java = 0;
        int passed = 0;
        for (int i = 0; i < changes.size(); i++) {
            List<String> names = ANSWERS.getOrDefault(i, List.of("not java"));
            if (names.contains("not java")) {
                continue;
            }
            java++;
            for (String name : names) {
                if (names.size() < fewest.getOrDefault(name, Integer.MAX_VALUE)) {
                    fewest.put(name, names.size());
                    sharpest.put(name, changes.get(i).told(source));
                }
            }
            if (names.isEmpty()) {
                passed++;
                System.out.println("not noticed: " + changes.get(i).told(source));
            }
        }
        System.out.println(java + " changes, " + passed + " not noticed");
        for (String name : Edges.ofAll().names()) {
            String change = sharpest.getOrDefault(name, "none");
            System.out.println(name + " noticed " + change + ", and so did others: " + (fewest.getOrDefault(name, 1) - 1));
        }
    }
}
