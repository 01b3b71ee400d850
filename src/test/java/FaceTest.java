import java.lang.reflect.Constructor;
import java.lang.reflect.Field;
import java.lang.reflect.Method;
import java.lang.reflect.Modifier;
import java.util.Arrays;
import java.util.Set;
import java.util.TreeSet;

/** The public face, and what rules 1 and 2 of the language ask of the classes. */
public final class FaceTest {
    private static final String[] METHODS = {
        "int job(int,int)", "int operation(int,int,int)", "int change(int,int)", "int swap(int,int)", "int takeBest()",
        "int improve()", "int length()", "int about(int,int)", "int path(int)", "int order(int,int)", "int ofJob(int,int)",
        "int count(int)", "int bound(int)", "int forced(int)", "int isForced(int,int,int)", "int best(int,int)",
        "int breakdown(int,int,int,int)", "int put(long)", "int wipe()", "int fault(int)", "int loadRoutes()",
        "int loadPlan()", "int undo()", "int save(int)", "int restore(int)",
    };
    private static final String[] CONSTANTS = {"NO_SUCH", "BAD_VALUE", "BAD_TEXT", "TOO_MANY", "NOT_POSSIBLE", "NONE"};

    private static int wrong = 0;

    private static void check(boolean right, String what) {
        if (!right) {
            wrong++;
            System.out.println(what);
        }
    }

    private static String told(Method method) {
        StringBuilder text = new StringBuilder(method.getReturnType().getName() + " " + method.getName() + "(");
        for (Class<?> each : method.getParameterTypes()) {
            text.append(text.charAt(text.length() - 1) == '(' ? "" : ",").append(each.getName());
        }
        return text.append(')').toString();
    }

    private static void methods(Class<?> face) {
        Set<String> found = new TreeSet<>();
        Set<String> names = new TreeSet<>();
        for (Method method : face.getDeclaredMethods()) {
            if (!Modifier.isPrivate(method.getModifiers())) {
                check(Modifier.isPublic(method.getModifiers()) && !Modifier.isStatic(method.getModifiers()), method + " is not public");
                found.add(told(method));
                names.add(method.getName());
            }
        }
        check(found.equals(new TreeSet<>(Arrays.asList(METHODS))), "the methods are " + found);
        for (Class<?> each : classesOf(face)) {
            for (Method method : each.getDeclaredMethods()) {
                boolean ofFace = each == face && Modifier.isPublic(method.getModifiers());
                check(ofFace || !names.contains(method.getName()), method + " bears a public name");
                check(method.getParameterCount() <= 7, method + " takes too much");
            }
        }
    }

    private static Class<?>[] classesOf(Class<?> face) {
        Class<?>[] inside = face.getDeclaredClasses();
        Class<?>[] all = Arrays.copyOf(inside, inside.length + 1);
        all[inside.length] = face;
        return all;
    }

    private static void fields(Class<?> face) throws IllegalAccessException {
        Set<String> found = new TreeSet<>();
        for (Field field : face.getDeclaredFields()) {
            if (!Modifier.isPrivate(field.getModifiers())) {
                int form = Modifier.PUBLIC | Modifier.STATIC | Modifier.FINAL;
                check((field.getModifiers() & form) == form && field.getType() == int.class, field + " is no constant");
                found.add(field.getName());
            }
        }
        check(found.equals(new TreeSet<>(Arrays.asList(CONSTANTS))), "the constants are " + found);
        for (Class<?> each : classesOf(face)) {
            int own = 0;
            for (Field field : each.getDeclaredFields()) {
                boolean fixed = Modifier.isStatic(field.getModifiers());
                check(!fixed || Modifier.isFinal(field.getModifiers()), field + " is static and not final");
                own += fixed ? 0 : 1;
            }
            check(own <= 20, each + " has " + own + " fields");
        }
    }

    public static void main(String[] args) throws IllegalAccessException {
        Class<?> face = BottleneckShop.class;
        check(Modifier.isPublic(face.getModifiers()) && Modifier.isFinal(face.getModifiers()), "the class is not public and final");
        check(face.getSuperclass() == Object.class && face.getInterfaces().length == 0, "the class extends something");
        Constructor<?>[] made = face.getDeclaredConstructors();
        check(made.length == 1 && Modifier.isPublic(made[0].getModifiers()) && made[0].getParameterCount() == 0,
                "the constructors are " + Arrays.toString(made));
        methods(face);
        fields(face);
        for (Class<?> inside : face.getDeclaredClasses()) {
            int form = inside.getModifiers();
            check(Modifier.isStatic(form) && !Modifier.isPublic(form) && !Modifier.isProtected(form), inside + " has a wrong form");
        }
        System.out.println(wrong == 0 ? "the face is as it should be" : wrong + " things are wrong with the face");
        if (wrong != 0) {
            System.exit(1);
        }
    }
}
