import java.nio.file.Files;
import java.nio.file.Path;
import java.util.List;

/** The class keeps to LANGUAGE.md as far as that can be seen in its text; and the look itself sees each breach. */
public final class LanguageTest {
    private static int wrong = 0, looked = 0;

    public static void main(String[] args) throws Exception {
        none("the class", Files.readString(Path.of("src/main/java/WrackDeeds.java")));
        none("a plain class", in("private static int f(int a) { int k = 0; while (k < a) { k++; } return Math.max(k, a); }"));
        none("eight deep, the library's with it", in(row(7, "Math.abs(1)")));
        none("recursion with a depth", in("private static int f(int depth) { return depth > 9 ? 0 : f(depth + 1); }"));
        breachesOfParts();
        breachesInMethods();
        breachesOfTheLibrary();
        System.out.println(looked + " texts looked at, " + wrong + " not as due");
        if (wrong != 0) System.exit(1);
    }

    private static void breachesOfParts() throws Exception {
        one(1, "a package line", "package a;\n" + in(""));
        one(1, "a second class outside", in("") + "final class Other { }");
        one(2, "an inner class", in("private final class In { }"));
        one(2, "a local class", in("private static void f() { class In { } }"));
        one(3, "an array of three", in("private final int[][][] a = null;"));
        one(3, "an array of arrays of own objects", in("private final WrackDeeds[][] a = null;"));
        one(3, "an Object", in("private final Object a = null;"));
        one(3, "a boxed long", in("private final Long a = null;"));
        one(5, "static state", in("private static int a = 0;"));
        one(5, "a static array that is not written out", in("private static final int[] A = new int[3];"));
        one(5, "a static block", in("static { }"));
        one(11, "eight parameters", in("private static void f(int a, int b, int c, int d, int e, int g, int h, int i) { }"));
        one(11, "a long method", in("private static void f() {" + "\n".repeat(61) + "}"));
        StringBuilder many = new StringBuilder();
        for (int k = 0; k < 21; k++) many.append("private int a").append(k).append(";");
        one(11, "twenty-one fields", in(many.toString()));
        many.setLength(0);
        for (int k = 0; k < 12; k++) many.append("private static final class A").append(k).append(" { }");
        one(11, "thirteen classes", in(many.toString()));
    }

    private static void breachesInMethods() throws Exception {
        one(6, "throw", inMethod("throw new WrackDeeds();").replace("class WrackDeeds", "class WrackDeeds extends RuntimeException"));
        one(6, "try", inMethod("try { } finally { }"));
        one(6, "synchronized", inMethod("synchronized (this) { }"));
        one(6, "assert", inMethod("assert true;"));
        one(6, "== between texts", inMethod("String a = \"a\"; boolean b = a == \"b\";"));
        one(8, "recursion without a depth", in("private static int f(int a) { return a > 9 ? 0 : f(a + 1); }"));
        one(8, "two that call one another", in("private static int f(int a) { return g(a); } private static int g(int a) { return a > 9 ? 0 : f(a + 1); }"));
        one(9, "while (true)", inMethod("while (true) { break; }"));
        one(9, "for (;;)", inMethod("for (;;) { break; }"));
        one(10, "texts joined by +", inMethod("String a = \"a\"; String b = a + 1;"));
        one(11, "nine deep", in(row(9, "1")));
        one(11, "nine deep, the ninth the library's", in(row(8, "Math.abs(1)")));
        one(2, "a lambda", inMethod("Runnable r = () -> { };"));
        one(2, "a method reference", inMethod("Runnable r = this::hashCode;"));
    }

    private static void breachesOfTheLibrary() throws Exception {
        one(4, "Integer.MAX_VALUE", inMethod("int a = Integer.MAX_VALUE;"));
        one(4, "a sign beyond 127 in a text", inMethod("String a = \"\\u00e9\";"));
        one(4, "addExact", inMethod("int a = Math.addExact(1, 2);"));
        one(4, "sqrt", inMethod("double a = Math.sqrt(2);"));
        one(4, "parseInt", inMethod("int a = Integer.parseInt(\"1\");"));
        one(4, "a clock", inMethod("long a = System.nanoTime();"));
        one(4, "Arrays.sort", inMethod("java.util.Arrays.sort(new int[2]);"));
        one(4, "hashCode", inMethod("int a = this.hashCode();"));
        one(4, "String.valueOf", inMethod("String a = String.valueOf(1);"));
    }

    private static String in(String members) {
        return "public final class WrackDeeds {\n" + members + "\n}\n";
    }

    private static String inMethod(String statements) {
        return in("void f() {\n" + statements + "\n}");
    }

    /** So many methods, each of which calls the next; the last answers as said. */
    private static String row(int many, String last) {
        StringBuilder all = new StringBuilder();
        for (int k = 1; k <= many; k++) {
            all.append("private static int f").append(k).append("() { return ").append(k < many ? "f" + (k + 1) + "()" : last).append("; }\n");
        }
        return all.toString();
    }

    private static void none(String what, String source) throws Exception {
        List<String> found = Rules.breaches(source);
        look(found.isEmpty(), what + ": " + String.join("; ", found));
    }

    private static void one(int rule, String what, String source) throws Exception {
        List<String> found = Rules.breaches(source);
        boolean well = !found.isEmpty() && found.stream().noneMatch(s -> s.startsWith("0:")) && found.stream().anyMatch(s -> s.startsWith(rule + ":"));
        look(well, what + " is a breach of rule " + rule + ", found was " + found);
    }

    private static void look(boolean well, String what) {
        looked++;
        if (!well) {
            wrong++;
            System.out.println("not so: " + what);
        }
    }
}
