import java.lang.reflect.Constructor;
import java.lang.reflect.Field;
import java.lang.reflect.Method;
import java.lang.reflect.Modifier;
import java.util.ArrayList;
import java.util.List;
import java.util.TreeSet;

/** The class has the document's face and no more. */
public final class FaceTest {
    private static final String[] FACE = {"int status()", "long top()", "long bottom()", "boolean tray(int,int,int)",
        "boolean write(int,int,long)", "long read(int,int)", "boolean pour(int,int,int,int,int)",
        "int feed(int,int,int,int,int)", "int beach(int)", "int days(int)", "int fault(int)", "int told(int)",
        "int finder(int,int)", "int find(int,int)", "int pebble(int,int,int)", "int go(int,int)", "int pass(int,int)",
        "int set(int,int)", "int lift(int,int)", "int gull(int,int)", "int wave(int)", "int tide()", "int dawn()",
        "int last(int)", "int whose(int)", "int leads(int)", "int leader()", "int duels()", "int needs(int)",
        "int strewn(int)", "int soonest(int,int)", "int threat(int)", "int best(int)", "int bestAt(int)",
        "int lateness(int,int)", "int seen(int,int)", "int boys(int)", "int boyAt(int,int)",
        "boolean odds(int,int,int)", "int gulls(int)", "int walk(int,int)", "int gain(int,int)", "int safe(int)",
        "int ranked(int)", "int rivals(int,int)", "int richest()", "int left(int)", "int tideIn(int)", "int open()",
        "int farthest(int)", "int time(int)", "int tally(int,int)", "int busiest()", "int both(int,int,int)",
        "int latest()", "int behind(int)", "int alone()", "int part(int,int)", "int crowd(int)", "int lies(int,int)",
        "int live(int)", "int lived(int)", "boolean mean(int,int,int)", "int mark()", "int back()"};

    public static void main(String[] args) throws Exception {
        TreeSet<String> face = new TreeSet<>(List.of(FACE));
        TreeSet<String> names = new TreeSet<>();
        TreeSet<String> found = new TreeSet<>();
        for (Method m : LastPebble.class.getDeclaredMethods()) {
            if (!Modifier.isPrivate(m.getModifiers())) {
                Check.due(m + " is public", Modifier.isPublic(m.getModifiers()), true);
                found.add(told(m));
                names.add(m.getName());
            }
        }
        Check.due("the face " + found, found.equals(face), true);
        privateMethodsHaveOtherNames(LastPebble.class, names);
        for (Class<?> inside : LastPebble.class.getDeclaredClasses()) {
            Check.due(inside + " is static", Modifier.isStatic(inside.getModifiers()), true);
            privateMethodsHaveOtherNames(inside, names);
        }
        for (Field f : LastPebble.class.getDeclaredFields()) {
            boolean open = f.getName().equals("NONE");
            Check.due(f + " is private", Modifier.isPrivate(f.getModifiers()), !open);
        }
        Constructor<?>[] constructors = LastPebble.class.getDeclaredConstructors();
        Check.due("constructors", constructors.length, 1);
        Check.due("public constructor", Modifier.isPublic(constructors[0].getModifiers()), true);
        int kind = LastPebble.class.getModifiers();
        Check.due("public final class", Modifier.isPublic(kind) && Modifier.isFinal(kind), true);
        Check.due("NONE", LastPebble.class.getField("NONE").getInt(null), -1);
        Check.end();
    }

    private static void privateMethodsHaveOtherNames(Class<?> of, TreeSet<String> names) {
        for (Method m : of.getDeclaredMethods()) {
            boolean face = Modifier.isPublic(m.getModifiers());
            Check.due(m + " bears a name of the face", !face && names.contains(m.getName()), false);
        }
    }

    private static String told(Method m) {
        List<String> kinds = new ArrayList<>();
        for (Class<?> kind : m.getParameterTypes()) {
            kinds.add(kind.getName());
        }
        return m.getReturnType().getName() + " " + m.getName() + "(" + String.join(",", kinds) + ")";
    }
}
