import java.lang.reflect.Constructor;
import java.lang.reflect.Field;
import java.lang.reflect.Method;
import java.lang.reflect.Modifier;
import java.nio.file.Files;
import java.nio.file.Path;
import java.util.Arrays;
import java.util.Set;
import java.util.TreeSet;

/** The document's face, and what a program can see of the rules in LANGUAGE.md. */
public final class FaceTest {
    private static final String[] FACE = {
        "int type(int, int)", "int wipe(int)", "int undo(int)", "int fault(int)", "int strand(int, int)", "int tide(int)",
        "int route(int)", "int event(int, int, int, int)", "int back()", "int read(int)", "int state(int, int, int)",
        "int says(int, int, int)", "int deed(int, int)", "int voids(int)", "int forged()", "int tangled(int)",
        "int reads(int)", "int tour(int)", "int hang(int, int)", "int save(int, int)", "int fill(int, int, int)",
        "int seen(int, int, int)", "int forget()", "int never()", "int was(int, int)", "int ask(int)",
        "long risk(int, int, int, int)", "int century(int, int, int)", "int sheet(int, int, int)", "int lose(int)",
        "int lay(int, int, int, int)", "int get(int, int, int)", "int copy(int, int, int, int, int)", "int write(int, int)",
        "int count(int)", "long digest()"};
    private static int wrong = 0;

    public static void main(String[] args) throws Exception {
        look(Modifier.isPublic(WrackDeeds.class.getModifiers()) && Modifier.isFinal(WrackDeeds.class.getModifiers()), "public and final");
        methods();
        members();
        inside();
        source(Files.readString(Path.of("src/main/java/WrackDeeds.java")));
        System.out.println(wrong == 0 ? "the face and the rules are kept" : wrong + " breaches");
        if (wrong != 0) System.exit(1);
    }

    private static void look(boolean well, String what) {
        if (!well) {
            wrong++;
            System.out.println("not so: " + what);
        }
    }

    private static void methods() {
        Set<String> due = new TreeSet<>(Arrays.asList(FACE)), has = new TreeSet<>(), names = new TreeSet<>();
        for (Method m : WrackDeeds.class.getDeclaredMethods()) {
            if (!Modifier.isPublic(m.getModifiers())) continue;
            String types = Arrays.toString(Arrays.stream(m.getParameterTypes()).map(Class::getName).toArray());
            has.add(m.getReturnType() + " " + m.getName() + "(" + types.substring(1, types.length() - 1) + ")");
            names.add(m.getName());
            look(!Modifier.isStatic(m.getModifiers()), m + " is not static");
        }
        look(has.equals(due), "the methods are " + due + ", not " + has);
        for (Class<?> c : all()) for (Method m : c.getDeclaredMethods()) {
            look(c == WrackDeeds.class && Modifier.isPublic(m.getModifiers()) || !names.contains(m.getName()), m + " bears a name of its own");
            look(m.getParameterCount() <= 7, m + " takes at most seven");
        }
    }

    private static void members() throws Exception {
        Set<String> constants = new TreeSet<>();
        for (Field f : WrackDeeds.class.getDeclaredFields()) {
            if (Modifier.isPrivate(f.getModifiers())) continue;
            constants.add(Modifier.toString(f.getModifiers()) + " " + f.getType() + " " + f.getName() + " " + f.getInt(null));
        }
        String as = "public static final int ";
        look(constants.equals(Set.of(as + "NONE -1", as + "BAD -2", as + "NOT -3", as + "FULL -4")), "the constants, not " + constants);
        for (Method m : WrackDeeds.class.getDeclaredMethods()) {
            look(Modifier.isPublic(m.getModifiers()) || Modifier.isPrivate(m.getModifiers()), m + " is public or private");
        }
        Constructor<?>[] made = WrackDeeds.class.getDeclaredConstructors();
        look(made.length == 1 && Modifier.isPublic(made[0].getModifiers()) && made[0].getParameterCount() == 0, "one constructor");
    }

    private static Class<?>[] all() {
        Class<?>[] in = WrackDeeds.class.getDeclaredClasses();
        Class<?>[] all = Arrays.copyOf(in, in.length + 1);
        all[in.length] = WrackDeeds.class;
        return all;
    }

    private static void inside() {
        look(all().length <= 12, "at most twelve classes");
        for (Class<?> c : all()) {
            int fields = 0;
            for (Field f : c.getDeclaredFields()) {
                if (Modifier.isStatic(f.getModifiers())) look(Modifier.isFinal(f.getModifiers()), f + " is final");
                else fields++;
            }
            look(fields <= 20, c + " has at most twenty fields");
            if (c == WrackDeeds.class) continue;
            look(Modifier.isStatic(c.getModifiers()) && !Modifier.isPublic(c.getModifiers()), c + " is static and not public");
        }
    }

    private static void source(String all) {
        String code = all.replaceAll("(?s)/\\*.*?\\*/", "").replaceAll("//[^\n]*", "");
        for (String word : new String[] {"throw", "throws", "try", "catch", "finally", "synchronized", "assert", "package", "var", "Object"}) {
            look(!code.matches("(?s).*\\b" + word + "\\b.*"), "no " + word);
        }
        look(!code.contains("->") && !code.contains("::"), "no lambda, no method reference");
        look(code.replaceAll("(?s)[^\n]*\\bimport java\\.util\\.Arrays;", "").indexOf("import") < 0, "no import but Arrays");
        String library = code.replaceAll("\\b(Math\\.(min|max|abs)|Integer\\.bitCount|Arrays\\.fill|System\\.arraycopy|java\\.util\\.Arrays)\\b", "");
        look(!library.matches("(?s).*\\b(Math|Integer|Long|Short|Byte|Character|Arrays|System|String|List|java)\\..*"), "of the library only what LANGUAGE.md lists and the class uses so far");
        int begun = -1, line = 0;
        for (String s : all.split("\n")) {
            line++;
            if (s.matches("( {4}| {8})\\S.*\\) \\{")) begun = line;
            if (s.matches("( {4}| {8})\\}") && begun > 0) look(line - begun <= 60, "the method that begins in line " + begun + " is short");
        }
    }
}
