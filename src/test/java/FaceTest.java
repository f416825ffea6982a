import java.lang.reflect.Constructor;
import java.lang.reflect.Field;
import java.lang.reflect.Method;
import java.lang.reflect.Modifier;
import java.util.Arrays;
import java.util.Set;
import java.util.TreeSet;
import java.util.stream.Collectors;

/** The class has the members of the document's face and no others that can be seen. */
final class FaceTest {
    private static final String[] CONSTANTS = {
        "NO_SUCH=-1", "BAD_VALUE=-2", "BAD_TEXT=-3", "TOO_MANY=-4", "NOT_POSSIBLE=-5", "NONE=-6",
        "PENALTY=0", "DECAY=1", "DEEP=2", "DIRTY=3",
    };
    private static final String[] METHODS = {
        "resident(int)", "weigh(int,int)", "away(int,int,int)", "area(int,int,int)", "set(int,int)",
        "plan()", "done(int)", "extra(int,int)", "end()", "propose(int,int)", "answer(int,int)",
        "about(int,int)", "room(int,int)", "task(int,int)", "swap(int,int)", "count(int)",
        "forecast(int,int)", "fairer(int)", "put(long)", "wipe()", "fault()", "load()", "undo()",
    };

    private FaceTest() {
    }

    static void run() throws Exception {
        Class<CleaningRota> face = CleaningRota.class;
        Check.holds("the class is public and final",
            Modifier.isPublic(face.getModifiers()) && Modifier.isFinal(face.getModifiers()));
        constants(face);
        methods(face);
        Constructor<?>[] constructors = face.getDeclaredConstructors();
        Check.is("constructors", constructors.length, 1);
        Check.holds("the constructor is public and takes nothing",
            Modifier.isPublic(constructors[0].getModifiers()) && constructors[0].getParameterCount() == 0);
        for (Class<?> inside : face.getDeclaredClasses()) {
            Check.holds(inside + " is static and not public",
                Modifier.isStatic(inside.getModifiers()) && !Modifier.isPublic(inside.getModifiers()));
        }
    }

    private static void constants(Class<?> face) throws Exception {
        Set<String> found = new TreeSet<>();
        for (Field field : face.getDeclaredFields()) {
            if (Modifier.isPrivate(field.getModifiers())) {
                continue;
            }
            int wanted = Modifier.PUBLIC | Modifier.STATIC | Modifier.FINAL;
            Check.holds(field + " is a public int constant",
                field.getModifiers() == wanted && field.getType() == int.class);
            found.add(field.getName() + "=" + field.getInt(null));
        }
        Check.holds("the constants are those of the face: " + found, found.equals(new TreeSet<>(Arrays.asList(CONSTANTS))));
    }

    private static void methods(Class<?> face) {
        Set<String> found = new TreeSet<>();
        Set<String> hidden = new TreeSet<>();
        for (Method method : face.getDeclaredMethods()) {
            if (Modifier.isPrivate(method.getModifiers())) {
                hidden.add(method.getName());
                continue;
            }
            Check.holds(method + " is public and returns an int",
                method.getModifiers() == Modifier.PUBLIC && method.getReturnType() == int.class);
            found.add(method.getName() + "(" + Arrays.stream(method.getParameterTypes())
                .map(Class::getName).collect(Collectors.joining(",")) + ")");
        }
        Check.holds("the methods are those of the face: " + found, found.equals(new TreeSet<>(Arrays.asList(METHODS))));
        for (String name : METHODS) {
            Check.holds("no private method is called " + name, !hidden.contains(name.substring(0, name.indexOf('('))));
        }
    }
}
