import java.lang.reflect.Field;
import java.lang.reflect.Method;
import java.lang.reflect.Modifier;
import java.util.Arrays;
import java.util.TreeSet;

/** The public face: the document's constants, constructor and methods, and no other member that can be seen. */
public final class FaceTest {
    private static final String[] METHODS = {
        "int feed(int)", "int end(int)", "int text()", "int fault()", "int rule(int)", "int beast(int,int)",
        "int robber(int)", "int at(int,int)", "int alter(int,int,int)", "int steel(int,int)", "int scout(int)",
        "int climb(int)", "int down(int)", "int swap(int,int)", "int noise()", "int flight(int)", "int free()",
        "int need()", "int best(int)", "int few(int)", "int loud(int)", "int towers()", "int tale(int)",
        "int beds(int)", "int brave()", "int value(int)", "long share(int,int)", "long mean(int,int)",
        "long luck(int,int)", "int see(int,int)", "int forget(int)", "int fits(int)", "int ask(int)",
        "int drift(int,int,int)", "int keep(int)", "int back(int)", "int sheet(int,int,int)",
        "int lay(int,int,int)", "int read(int,int,int,int)", "int torn()", "int count(int)"};

    public static void main(String[] args) {
        Due.isTrue("public and final", Modifier.isPublic(TownBand.class.getModifiers())
            && Modifier.isFinal(TownBand.class.getModifiers()));
        Due.is("constructors", TownBand.class.getDeclaredConstructors().length, 1);
        Due.is("public constructors", TownBand.class.getConstructors().length, 1);
        Due.is("BAD", TownBand.BAD, -1);
        Due.is("STATE", TownBand.STATE, -2);
        Due.is("FULL", TownBand.FULL, -3);
        Due.is("NONE", TownBand.NONE, -4);
        methods();
        fields();
        Due.finish();
    }

    private static void methods() {
        TreeSet<String> seen = new TreeSet<>();
        TreeSet<String> names = new TreeSet<>();
        for (Method m : TownBand.class.getDeclaredMethods()) {
            if (!Modifier.isPrivate(m.getModifiers())) {
                Due.isTrue(m + " is public", Modifier.isPublic(m.getModifiers()));
                StringBuilder s = new StringBuilder();
                for (Class<?> type : m.getParameterTypes()) {
                    s.append(s.length() == 0 ? "" : ",").append(type.getName());
                }
                seen.add(m.getReturnType().getName() + " " + m.getName() + "(" + s + ")");
                names.add(m.getName());
            }
        }
        Due.isTrue("methods " + seen, seen.equals(new TreeSet<>(Arrays.asList(METHODS))));
        for (Class<?> inside : TownBand.class.getDeclaredClasses()) {
            Due.isTrue(inside + " is static", Modifier.isStatic(inside.getModifiers()));
            Due.isTrue(inside + " can't be seen", !Modifier.isPublic(inside.getModifiers()));
        }
        for (Method m : TownBand.class.getDeclaredMethods()) {
            if (Modifier.isPrivate(m.getModifiers())) {
                Due.isTrue(m + " bears no public name", !names.contains(m.getName()));
            }
        }
    }

    private static void fields() {
        int open = 0;
        for (Field f : TownBand.class.getDeclaredFields()) {
            if (!Modifier.isPrivate(f.getModifiers())) {
                open++;
            }
            if (Modifier.isStatic(f.getModifiers())) {
                Due.isTrue(f + " is final", Modifier.isFinal(f.getModifiers()));
            }
        }
        Due.is("fields that can be seen", open, 4);
    }
}
