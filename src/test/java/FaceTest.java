import java.lang.reflect.Constructor;
import java.lang.reflect.Field;
import java.lang.reflect.Method;
import java.lang.reflect.Modifier;
import java.util.Set;
import java.util.TreeSet;

/** The public face of PaneSpots, by rule 1 of LANGUAGE.md, and the sizes of its classes by rule 11. */
public final class FaceTest {
    private static final Set<String> FACE = Set.of(
        "int feed(long,long,long)", "int chapel()", "int guild(int,int)", "int pane(int,int)", "int spot(int,int,int)",
        "int place(int,int,int,int,int)", "int yields(int)", "int rents(int)", "int worth(int,int)", "int gain(int,int)",
        "int best(int)", "boolean exchange(int,int)", "boolean breaks(int,boolean)", "int fallen()", "int falls(int)",
        "boolean undo()", "int stall(int,int,int,int,int)", "int see(int,int,int)", "int candles(int,int)", "int when(int)",
        "boolean clear()", "int stains(int,int,int,int)", "int stood(int,int,int,int,int,boolean)", "int clouded(int,int)",
        "boolean mark(int,boolean)", "int count(int)");

    private static int wrong;

    public static void main(String[] args) {
        methods();
        fieldsAndConstructors();
        classesInside();
        System.out.println("FaceTest: " + wrong + " not as due");
        if (wrong != 0) {
            System.exit(1);
        }
    }

    private static void must(boolean so, String what) {
        if (!so) {
            wrong++;
            System.out.println("FaceTest: " + what);
        }
    }

    private static String told(Method m) {
        StringBuilder text = new StringBuilder(m.getReturnType().getSimpleName()).append(' ').append(m.getName()).append('(');
        for (Class<?> p : m.getParameterTypes()) {
            text.append(text.charAt(text.length() - 1) == '(' ? "" : ",").append(p.getSimpleName());
        }
        return text.append(')').toString();
    }

    private static void methods() {
        Set<String> found = new TreeSet<>();
        Set<String> names = new TreeSet<>();
        for (Method m : PaneSpots.class.getDeclaredMethods()) {
            if (Modifier.isPublic(m.getModifiers())) {
                found.add(told(m));
                names.add(m.getName());
                boolean throwing = m.getExceptionTypes().length > 0;
                must(throwing == m.getName().equals("clouded"), m.getName() + " declares what it throws");
            }
        }
        must(found.equals(new TreeSet<>(FACE)), "the public methods are " + found);
        for (Method m : PaneSpots.class.getDeclaredMethods()) {
            boolean open = Modifier.isPublic(m.getModifiers());
            must(open || Modifier.isPrivate(m.getModifiers()), m + " is neither public nor private");
            must(open || !names.contains(m.getName()), m + " bears the name of a public one");
        }
    }

    private static void fieldsAndConstructors() {
        must(Modifier.isFinal(PaneSpots.class.getModifiers()) && Modifier.isPublic(PaneSpots.class.getModifiers()), "public, final");
        for (Field f : PaneSpots.class.getDeclaredFields()) {
            boolean none = f.getName().equals("NONE");
            must(Modifier.isPublic(f.getModifiers()) == none, f + " is of the face or not");
            must(none || Modifier.isPrivate(f.getModifiers()), f + " is not private");
        }
        Constructor<?>[] made = PaneSpots.class.getDeclaredConstructors();
        must(made.length == 1 && Modifier.isPublic(made[0].getModifiers()) && made[0].getParameterCount() == 0, "one constructor");
    }

    private static void classesInside() {
        Class<?>[] inside = PaneSpots.class.getDeclaredClasses();
        must(inside.length <= 12, "at most some twelve classes");
        for (Class<?> c : inside) {
            must(Modifier.isStatic(c.getModifiers()) && Modifier.isPrivate(c.getModifiers()), c + " is not private and static");
            int fields = 0;
            for (Field f : c.getDeclaredFields()) {
                boolean constant = Modifier.isStatic(f.getModifiers());
                fields += constant ? 0 : 1;
                must(!constant || Modifier.isFinal(f.getModifiers()), f + " is static, but not final");
            }
            must(fields <= 20, c + " has " + fields + " fields");
            for (Method m : c.getDeclaredMethods()) {
                must(m.getParameterCount() <= 7, m + " takes too much");
            }
        }
    }
}
