import java.lang.reflect.Constructor;
import java.lang.reflect.Field;
import java.lang.reflect.Method;
import java.lang.reflect.Modifier;
import java.util.Set;
import java.util.TreeSet;

/** The public face: each signature with the exceptions that it names, and nothing else. */
public final class FaceTest {
    private static final String INDEX = "IndexOutOfBoundsException";
    private static final String ARGUMENT = "IllegalArgumentException";
    private static final String STATE = "IllegalStateException";

    public static void main(String[] args) {
        Check.begin();
        Set<String> due = new TreeSet<>();
        due.add("int addTitle(int,int) " + ARGUMENT + " " + STATE);
        due.add("int yearOf(int,int) " + INDEX + " " + ARGUMENT);
        due.add("int volumeOf(int,int) " + INDEX + " " + ARGUMENT);
        due.add("int addPackage(int,int,int,int) " + ARGUMENT + " " + STATE);
        due.add("boolean subscribe(int,boolean) " + INDEX);
        due.add("boolean come(int,int,int,int,int) " + INDEX + " " + ARGUMENT);
        due.add("void go(int,int) " + INDEX + " " + STATE);
        due.add("int pass(int) " + ARGUMENT + " " + STATE);
        due.add("int today()");
        due.add("boolean isSubscribed(int,int) " + INDEX + " " + ARGUMENT);
        due.add("boolean isIn(int,int,int) " + INDEX + " " + ARGUMENT);
        due.add("int report(int,int) " + INDEX);
        due.add("int mend(int,int) " + INDEX);
        due.add("boolean covers(int,int,int,int,int) " + INDEX + " " + ARGUMENT);
        due.add("int ways(int,int,int,int) " + INDEX + " " + ARGUMENT);
        due.add("int wayAt(int,int,int,int,int) " + ARGUMENT + " " + INDEX);
        due.add("int gap(int,int) " + INDEX + " " + ARGUMENT);
        due.add("int doubles(int,int) " + INDEX + " " + ARGUMENT);
        due.add("boolean isNeedless(int) " + INDEX);
        methods(due);
        members();
        Check.end();
    }

    private static void methods(Set<String> due) {
        Set<String> names = new TreeSet<>();
        for (Method m : LinkResolver.class.getDeclaredMethods()) {
            if (Modifier.isPublic(m.getModifiers())) {
                names.add(m.getName());
                if (!due.remove(signature(m))) {
                    Check.fails("not in the document: " + signature(m));
                }
            }
        }
        for (String missing : due) {
            Check.fails("missing: " + missing);
        }
        for (Method m : LinkResolver.class.getDeclaredMethods()) {
            if (!Modifier.isPublic(m.getModifiers())) {
                Check.yes(m.getName() + " is private", Modifier.isPrivate(m.getModifiers()));
                Check.no(m.getName() + " is a public name", names.contains(m.getName()));
            }
        }
    }

    private static String signature(Method m) {
        StringBuilder s = new StringBuilder();
        s.append(m.getReturnType().getSimpleName()).append(' ').append(m.getName()).append('(');
        String comma = "";
        for (Class<?> c : m.getParameterTypes()) {
            s.append(comma).append(c.getSimpleName());
            comma = ",";
        }
        s.append(')');
        for (Class<?> c : m.getExceptionTypes()) {
            s.append(' ').append(c.getSimpleName());
        }
        return s.toString();
    }

    private static void members() {
        int of = LinkResolver.class.getModifiers();
        Check.yes("the class is public", Modifier.isPublic(of));
        Check.yes("the class is final", Modifier.isFinal(of));
        Constructor<?>[] makers = LinkResolver.class.getDeclaredConstructors();
        Check.same("the constructors", makers.length, 1);
        Check.yes("the constructor is public", Modifier.isPublic(makers[0].getModifiers()));
        Check.same("the constructor's parameters", makers[0].getParameterCount(), 0);
        for (Field f : LinkResolver.class.getDeclaredFields()) {
            int is = f.getModifiers();
            if (f.getName().equals("NONE")) {
                Check.yes("NONE is a public constant", Modifier.isPublic(is)
                        && Modifier.isStatic(is) && Modifier.isFinal(is));
            } else {
                Check.yes(f.getName() + " is private", Modifier.isPrivate(is));
                Check.yes(f.getName() + " is no static state",
                        !Modifier.isStatic(is) || Modifier.isFinal(is));
            }
        }
    }
}
