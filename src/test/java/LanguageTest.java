import java.io.IOException;
import java.nio.charset.StandardCharsets;
import java.nio.file.Files;
import java.nio.file.Path;
import java.util.List;

/** The class keeps to LANGUAGE.md, as far as its tree shows it; sources that break a rule show that the look would notice. */
public final class LanguageTest {
    private static final Path SOURCE = Path.of("src", "main", "java", "PenSwings.java");

    public static void main(String[] args) throws IOException {
        List<String> broken = Language.broken(Files.readString(SOURCE, StandardCharsets.UTF_8));
        Check.is("rules that the class breaks: " + broken, broken.size(), 0);
        good();
        classesAndFields();
        library();
        exceptions();
        shapes();
        Check.end();
    }

    private static String inClass(String members) {
        return "import java.util.*; public final class PenSwings { " + members + " }";
    }

    private static String inMethod(String statements) {
        return inClass("int a(int n) { " + statements + " return 0; }");
    }

    private static void breaks(int rule, String source) throws IOException {
        // Written as one import each: a star stands for more than the rules list.
        String[] imports = {"ArrayList", "Arrays", "List", "NoSuchElementException"};
        StringBuilder all = new StringBuilder();
        for (String name : imports) {
            all.append("import java.util.").append(name).append("; ");
        }
        List<String> broken = Language.broken(source.replace("import java.util.*; ", all));
        boolean due = rule == 0 ? broken.isEmpty() : broken.stream().anyMatch(b -> b.startsWith("rule " + rule));
        Check.is("rule " + rule + " for " + source + ": " + broken, due ? 1 : 0, 1);
    }

    private static void good() throws IOException {
        breaks(0, inMethod("int[] row = new int[3]; for (int i = 0; i < 3; i++) { row[i] = Math.abs(n); }"));
        breaks(0, inMethod("List<Integer> row = new ArrayList<>(); row.add(n); Arrays.fill(new int[2], n);"));
        breaks(0, inMethod("StringBuilder s = new StringBuilder(); s.append(n); String t = s.toString();"));
        breaks(0, inMethod("if (n < 0) { throw new NoSuchElementException(\"none\"); }"));
        breaks(0, inClass("private static final int[] ROW = {1, 2}; private static final int TWO = 1 + 1;"));
    }

    private static void classesAndFields() throws IOException {
        breaks(2, inMethod("class Local { }"));
        breaks(2, inMethod("Runnable r = () -> { };"));
        breaks(2, inMethod("Runnable r = this::hashCode;"));
        breaks(3, inMethod("Object o = null;"));
        breaks(3, inMethod("Long o = 1L;"));
        breaks(3, inMethod("int[][][] o = null;"));
        breaks(5, inClass("static int state = 0;"));
        breaks(5, inClass("static final int[] ROW = new int[Math.abs(2)];"));
        breaks(5, inClass("static final double HALF = 0.5;"));
        breaks(5, inClass("static final int TWO; static { TWO = 2; }"));
        StringBuilder fields = new StringBuilder();
        StringBuilder classes = new StringBuilder();
        for (int i = 0; i < 21; i++) {
            fields.append("int f").append(i).append("; ");
            classes.append(i < 12 ? "static class C" + i + " { } " : "");
        }
        breaks(11, inClass(fields.toString()));
        breaks(11, inClass(classes.toString()));
    }

    private static void library() throws IOException {
        breaks(4, "import java.util.HashMap; public final class PenSwings { }");
        breaks(4, "import java.util.*; import java.util.Random; public final class PenSwings { }");
        breaks(4, inMethod("n += System.nanoTime();"));
        breaks(4, inMethod("n += Math.addExact(n, 1);"));
        breaks(4, inMethod("n += (int) Math.abs(0.5);"));
        breaks(4, inMethod("n += (int) Math.random();"));
        breaks(4, inMethod("n += \"a\".hashCode();"));
        breaks(4, inMethod("n += Arrays.asList(1).size();"));
        breaks(4, inMethod("n += new java.util.HashMap<Integer, Integer>().size();"));
    }

    private static void exceptions() throws IOException {
        breaks(6, inMethod("if (n < 0) { throw new NullPointerException(); }"));
        breaks(6, inMethod("if (n < 0) { throw new IllegalStateException(\"n\" + n); }"));
        breaks(6, inMethod("RuntimeException e = new RuntimeException(); if (n < 0) { throw e; }"));
        breaks(6, inClass("public PenSwings() { if (true) { throw new IllegalStateException(); } }"));
        breaks(6, inMethod("try { a(n); } finally { n = 0; }"));
        breaks(6, inMethod("try { a(n); } catch (NullPointerException e) { n = 0; }"));
        breaks(6, inMethod("try { a(n); } catch (RuntimeException e) { n = 0; }"));
        breaks(6, inMethod("try { if (n < 0) { throw new IllegalStateException(); } }"
            + " catch (IllegalStateException e) { n = 0; }"));
        breaks(6, inMethod("synchronized (this) { n = 0; }"));
        breaks(6, inMethod("assert n > 0;"));
        breaks(6, inMethod("String s = \"a\"; if (s == \"a\") { n = 0; }"));
    }

    private static void shapes() throws IOException {
        breaks(8, inMethod("a(n - 1);"));
        breaks(9, inMethod("while (true) { if (n > 0) { break; } }"));
        breaks(9, inMethod("for (;;) { if (n > 0) { break; } }"));
        breaks(9, inMethod("do { n++; } while (n != 3);"));
        breaks(9, inMethod("while (n < 3 || n != 7) { n++; }"));
        breaks(10, inMethod("String s = \"a\"; switch (s) { default: n = 0; }"));
        breaks(10, inMethod("String s = \"a\" + n;"));
        breaks(10, inMethod("String s = \"a\"; s += n;"));
        breaks(11, inClass("void a(int a, int b, int c, int d, int e, int f, int g, int h) { }"));
        breaks(11, inMethod("\n".repeat(60)));
        StringBuilder methods = new StringBuilder();
        for (int i = 0; i < 8; i++) {
            methods.append("void m").append(i).append("() { m").append(i + 1).append("(); } ");
        }
        breaks(11, inClass(methods + "void m8() { }"));
    }
}
