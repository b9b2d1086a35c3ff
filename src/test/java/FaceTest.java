import java.lang.reflect.Constructor;
import java.lang.reflect.Field;
import java.lang.reflect.Member;
import java.lang.reflect.Method;
import java.lang.reflect.Modifier;
import java.util.Arrays;
import java.util.Set;
import java.util.TreeSet;
import java.util.stream.Collectors;

/** The public face is the document's, and nothing else can be seen from outside. */
final class FaceTest {
    private static final String[] FACE = {
        "int feed(int, int, int, int, int)", "int end(int)", "void zone(int)", "void cron(int)",
        "int holiday(int, int, boolean)", "long next(int, int, int, long)",
        "long last(int, int, int, long)", "int local(int, long, int)",
        "int make(int, long, long, long, int, int, int)",
        "int makeCron(int, int, int, long, int, int, int)", "int cancel(int)", "int workers(int)",
        "int advance(long)", "void stall(long)", "int close(boolean, boolean)",
        "long job(int, int)", "long start(int, int)", "long count(int)"};

    public static void main(String[] args) {
        Class<JobHouse> face = JobHouse.class;
        Set<String> open = new TreeSet<>();
        Set<String> hidden = new TreeSet<>();
        for (Method method : face.getDeclaredMethods()) {
            if (!method.isSynthetic()) {
                (isHidden(method) ? hidden : open).add(isHidden(method) ? method.getName()
                        : told(method));
            }
        }
        Check.is("methods " + open, open.equals(new TreeSet<>(Arrays.asList(FACE))) ? 1 : 0, 1);
        for (String call : FACE) {
            String name = call.substring(call.indexOf(' ') + 1, call.indexOf('('));
            Check.is("a hidden " + name, hidden.contains(name) ? 1 : 0, 0);
        }
        for (Field field : face.getDeclaredFields()) {
            Check.is("field " + field.getName(), isHidden(field) ? 1 : 0, 1);
        }
        Constructor<?>[] constructors = face.getDeclaredConstructors();
        Check.is("constructors", constructors.length, 1);
        Check.is("its parameters", constructors[0].getParameterCount(), 0);
        Check.is("public and final", face.getModifiers(), Modifier.PUBLIC | Modifier.FINAL);
        staticState(face);
        Check.finish();
    }

    private static boolean isHidden(Member member) {
        return Modifier.isPrivate(member.getModifiers());
    }

    private static String told(Method method) {
        return method.getReturnType().getName() + " " + method.getName() + "("
                + Arrays.stream(method.getParameterTypes()).map(Class::getName)
                        .collect(Collectors.joining(", ")) + ")";
    }

    private static void staticState(Class<?> face) {
        for (Class<?> inside : face.getDeclaredClasses()) {
            Check.is("static " + inside, Modifier.isStatic(inside.getModifiers()) ? 1 : 0, 1);
            Check.is("not public " + inside, Modifier.isPublic(inside.getModifiers()) ? 1 : 0, 0);
            staticState(inside);
        }
        for (Field field : face.getDeclaredFields()) {
            boolean fixed = Modifier.isFinal(field.getModifiers());
            Check.is("final " + field, fixed || !Modifier.isStatic(field.getModifiers()) ? 1 : 0,
                    1);
        }
        Check.is("few fields in " + face, Arrays.stream(face.getDeclaredFields())
                .filter(field -> !Modifier.isStatic(field.getModifiers())).count() <= 20 ? 1 : 0,
                1);
    }
}
