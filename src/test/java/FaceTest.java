import java.lang.reflect.Constructor;
import java.lang.reflect.Field;
import java.lang.reflect.Method;
import java.lang.reflect.Modifier;
import java.util.Arrays;
import java.util.Set;
import java.util.TreeSet;

/** The document's face, and rule 1 of LANGUAGE.md: what is public, private, inside. The other rules: LanguageTest. */
public final class FaceTest {
    private static final String[] FACE = {
        "int type(int, int)", "int wipe(int)", "int undo(int)", "int fault(int)", "int strand(int, int)", "int tide(int)",
        "int route(int)", "int event(int, int, int, int)", "int back()", "int read(int)", "int state(int, int, int)",
        "int says(int, int, int)", "int deed(int, int)", "int voids(int)", "int forged()", "int tangled(int)",
        "int reads(int)", "int tour(int)", "int hang(int, int)", "int save(int, int)", "int fill(int, int, int)",
        "int seen(int, int, int)", "int forget()", "int never()", "int was(int, int)", "int ask(int)",
        "long risk(int, int, int, int)", "int century(int, int, int)", "int sheet(int, int, int)", "int lose(int)",
        "int lay(int, int, int, int)", "int get(int, int, int)", "int copy(int, int, int, int, int)", "int write(int, int)",
        "int count(int)", "long digest()"};
    private static int wrong = 0;

    public static void main(String[] args) throws Exception {
        look(Modifier.isPublic(WrackDeeds.class.getModifiers()) && Modifier.isFinal(WrackDeeds.class.getModifiers()), "public and final");
        methods();
        members();
        inside();
        System.out.println(wrong == 0 ? "the face is kept" : wrong + " breaches");
        if (wrong != 0) System.exit(1);
    }

    private static void look(boolean well, String what) {
        if (!well) {
            wrong++;
            System.out.println("not so: " + what);
        }
    }

    private static void methods() {
        Set<String> due = new TreeSet<>(Arrays.asList(FACE)), has = new TreeSet<>(), names = new TreeSet<>();
        for (Method m : WrackDeeds.class.getDeclaredMethods()) {
            if (!Modifier.isPublic(m.getModifiers())) continue;
            String types = Arrays.toString(Arrays.stream(m.getParameterTypes()).map(Class::getName).toArray());
            has.add(m.getReturnType() + " " + m.getName() + "(" + types.substring(1, types.length() - 1) + ")");
            names.add(m.getName());
            look(!Modifier.isStatic(m.getModifiers()), m + " is not static");
        }
        look(has.equals(due), "the methods are " + due + ", not " + has);
        for (Class<?> c : all()) for (Method m : c.getDeclaredMethods()) {
            look(c == WrackDeeds.class && Modifier.isPublic(m.getModifiers()) || !names.contains(m.getName()), m + " bears a name of its own");
        }
    }

    private static void members() throws Exception {
        Set<String> constants = new TreeSet<>();
        for (Field f : WrackDeeds.class.getDeclaredFields()) {
            if (Modifier.isPrivate(f.getModifiers())) continue;
            constants.add(Modifier.toString(f.getModifiers()) + " " + f.getType() + " " + f.getName() + " " + f.getInt(null));
        }
        String as = "public static final int ";
        look(constants.equals(Set.of(as + "NONE -1", as + "BAD -2", as + "NOT -3", as + "FULL -4")), "the constants, not " + constants);
        for (Method m : WrackDeeds.class.getDeclaredMethods()) {
            look(Modifier.isPublic(m.getModifiers()) || Modifier.isPrivate(m.getModifiers()), m + " is public or private");
        }
        Constructor<?>[] made = WrackDeeds.class.getDeclaredConstructors();
        look(made.length == 1 && Modifier.isPublic(made[0].getModifiers()) && made[0].getParameterCount() == 0, "one constructor");
    }

    private static Class<?>[] all() {
        Class<?>[] in = WrackDeeds.class.getDeclaredClasses();
        Class<?>[] all = Arrays.copyOf(in, in.length + 1);
        all[in.length] = WrackDeeds.class;
        return all;
    }

    private static void inside() {
        for (Class<?> c : all()) {
            if (c == WrackDeeds.class) continue;
            look(Modifier.isStatic(c.getModifiers()) && !Modifier.isPublic(c.getModifiers()), c + " is static and not public");
        }
    }
}
