import java.lang.reflect.Constructor;
import java.lang.reflect.Field;
import java.lang.reflect.Method;
import java.lang.reflect.Modifier;
import java.util.ArrayList;
import java.util.Arrays;
import java.util.Collections;
import java.util.List;

/** The public face, by reflection: just the document's constants, constructor and methods. */
public final class FaceTest {
    private static final String[] METHODS = {
        "int edge(int, int, int, int, int)", "int guard(int, int, int, int)",
        "int limit(int, int, int, int, int)", "int wipe()", "int explore(int)",
        "int state(int, int)", "int bound(int, int, int)", "int reach(int, int, int)",
        "int has(int, int, int, int)", "int way(int, int, int)", "int moment(int, int)",
        "int greatest(int)", "int begin()", "int pass(int)", "int move(int, int)", "int run(int)",
        "int here()", "int about(int, int)", "int count(int)", "long digest()"};

    public static void main(String[] args) {
        Class<?> face = ClockZones.class;
        Due.hold("the class is public", Modifier.isPublic(face.getModifiers()));
        Due.hold("the class is final", Modifier.isFinal(face.getModifiers()));
        methods(face);
        constants(face);
        Constructor<?>[] constructors = face.getDeclaredConstructors();
        Due.be("constructors", constructors.length, 1);
        Due.be("arguments of the constructor", constructors[0].getParameterCount(), 0);
        Due.hold("the constructor is public", Modifier.isPublic(constructors[0].getModifiers()));
        for (Class<?> inside : face.getDeclaredClasses()) {
            Due.hold(inside + " is static", Modifier.isStatic(inside.getModifiers()));
            Due.hold(inside + " is not public", !Modifier.isPublic(inside.getModifiers()));
        }
        Due.done();
    }

    private static void methods(Class<?> face) {
        List<String> seen = new ArrayList<>();
        List<String> hidden = new ArrayList<>();
        for (Method method : face.getDeclaredMethods()) {
            if (Modifier.isPrivate(method.getModifiers())) {
                hidden.add(method.getName());
                continue;
            }
            Due.hold(method + " is public", Modifier.isPublic(method.getModifiers()));
            Due.hold(method + " is of the object", !Modifier.isStatic(method.getModifiers()));
            Due.be(method + " throws", method.getExceptionTypes().length, 0);
            String types = Arrays.toString(method.getParameterTypes());
            seen.add(method.getReturnType() + " " + method.getName()
                + "(" + types.substring(1, types.length() - 1) + ")");
        }
        List<String> due = new ArrayList<>(Arrays.asList(METHODS));
        Collections.sort(due);
        Collections.sort(seen);
        Due.hold("methods are " + seen, seen.equals(due));
        for (String name : hidden) {
            for (String told : METHODS) {
                Due.hold("no private method is called " + name, !told.contains(" " + name + "("));
            }
        }
    }

    private static void constants(Class<?> face) {
        int all = 0;
        for (Field field : face.getDeclaredFields()) {
            if (Modifier.isPrivate(field.getModifiers())) {
                continue;
            }
            all++;
            Due.be(field + " is public, static and final", field.getModifiers(),
                Modifier.PUBLIC | Modifier.STATIC | Modifier.FINAL);
            Due.hold(field + " is an int", field.getType() == int.class);
        }
        Due.be("constants", all, 5);
        Due.be("NONE", ClockZones.NONE, -1);
        Due.be("UNKNOWN", ClockZones.UNKNOWN, -101);
        Due.be("OUTSIDE", ClockZones.OUTSIDE, -102);
        Due.be("STATE", ClockZones.STATE, -103);
        Due.be("FULL", ClockZones.FULL, -104);
    }
}
