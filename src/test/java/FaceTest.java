import java.lang.reflect.Constructor;
import java.lang.reflect.Field;
import java.lang.reflect.Method;
import java.lang.reflect.Modifier;
import java.util.ArrayList;
import java.util.Arrays;
import java.util.List;
import java.util.TreeSet;

/** The class shows the document's face, and nothing else of it can be seen from outside. */
public final class FaceTest {
    private static final List<String> FACE = Arrays.asList(
        "public JuryDesk()",
        "public static final int JuryDesk.NONE",
        "public void JuryDesk.heat(int,int) throws java.lang.IllegalArgumentException",
        "public int JuryDesk.better(int,int,int)",
        "public int JuryDesk.whyLast()",
        "public int JuryDesk.why(int)",
        "public boolean JuryDesk.withdraw(int,int)",
        "public boolean JuryDesk.scratch(int,int)",
        "public boolean JuryDesk.settled(int,int,int)",
        "public boolean JuryDesk.direct(int,int,int)",
        "public long JuryDesk.orders(int)",
        "public long JuryDesk.atRank(int,int,int)",
        "public long JuryDesk.before(int,int,int)",
        "public long JuryDesk.meanRank(int,int,boolean)",
        "public long JuryDesk.chance(long,long,boolean) throws java.lang.IllegalArgumentException",
        "public int JuryDesk.order(int,long,int)",
        "public int JuryDesk.give(int,int) throws java.lang.IllegalArgumentException",
        "public long JuryDesk.numberOf(int)",
        "public int JuryDesk.ask(int,int)",
        "public int JuryDesk.tie(int)",
        "public int JuryDesk.tieEntry(int,int)",
        "public int JuryDesk.chains(int)",
        "public int JuryDesk.follows(int,int)",
        "public int JuryDesk.count(int,int)");

    public static void main(String[] args) {
        List<String> faults = new ArrayList<>();
        TreeSet<String> missing = new TreeSet<>(FACE);
        missing.removeAll(visibleMembers());
        TreeSet<String> more = new TreeSet<>(visibleMembers());
        more.removeAll(FACE);
        missing.forEach(member -> faults.add("not there: " + member));
        more.forEach(member -> faults.add("not in the document: " + member));
        checkClasses(faults);
        faults.forEach(System.out::println);
        System.out.println(faults.isEmpty() ? "the face is the document's" : faults.size() + " faults");
        if (!faults.isEmpty()) {
            System.exit(1);
        }
    }

    private static TreeSet<String> visibleMembers() {
        TreeSet<String> seen = new TreeSet<>();
        for (Constructor<?> made : JuryDesk.class.getDeclaredConstructors()) {
            keepVisible(seen, made.getModifiers(), made.toString());
        }
        for (Method method : JuryDesk.class.getDeclaredMethods()) {
            keepVisible(seen, method.getModifiers(), method.toString());
        }
        for (Field field : JuryDesk.class.getDeclaredFields()) {
            keepVisible(seen, field.getModifiers(), field.toString());
        }
        return seen;
    }

    private static void keepVisible(TreeSet<String> seen, int modifiers, String member) {
        if (!Modifier.isPrivate(modifiers)) {
            seen.add(member);
        }
    }

    private static void checkClasses(List<String> faults) {
        int modifiers = JuryDesk.class.getModifiers();
        if (!Modifier.isPublic(modifiers) || !Modifier.isFinal(modifiers)) {
            faults.add("JuryDesk is not public and final");
        }
        TreeSet<String> names = new TreeSet<>();
        for (Method method : JuryDesk.class.getMethods()) {
            names.add(method.getName());
        }
        checkPrivateNames(faults, names, JuryDesk.class);
        for (Class<?> inside : JuryDesk.class.getDeclaredClasses()) {
            checkPrivateNames(faults, names, inside);
            checkFields(faults, inside);
            if (!Modifier.isStatic(inside.getModifiers())) {
                faults.add("not static: " + inside);
            }
        }
        checkFields(faults, JuryDesk.class);
    }

    private static void checkPrivateNames(List<String> faults, TreeSet<String> names, Class<?> in) {
        for (Method method : in.getDeclaredMethods()) {
            if (!Modifier.isPublic(method.getModifiers()) && names.contains(method.getName())) {
                faults.add("bears the name of a public method: " + method);
            }
        }
    }

    /** State that all objects share would let one desk change another one's answers. */
    private static void checkFields(List<String> faults, Class<?> in) {
        for (Field field : in.getDeclaredFields()) {
            int modifiers = field.getModifiers();
            if (Modifier.isStatic(modifiers) && !Modifier.isFinal(modifiers)) {
                faults.add("static, but not final: " + field);
            }
        }
    }
}
