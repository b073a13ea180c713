import java.lang.reflect.Constructor;
import java.lang.reflect.Field;
import java.lang.reflect.Method;
import java.lang.reflect.Modifier;
import java.util.Arrays;
import java.util.Set;
import java.util.TreeSet;

/** The face is what the document tells, and nothing else of the class can be seen from outside. */
public final class FaceTest {
    private static final String[] METHODS = {
        "addCarrier() IllegalStateException",
        "addCradle(int,int) IllegalArgumentException,IllegalStateException",
        "addVolume(int,int,int,int) IllegalArgumentException,IllegalStateException",
        "append(int) IllegalArgumentException,IllegalStateException",
        "bar(int) IndexOutOfBoundsException,IllegalArgumentException,IllegalStateException",
        "bestLoad(int,int) IllegalArgumentException",
        "bring(int,int,int) IndexOutOfBoundsException,IllegalStateException",
        "carrier(int,int) IndexOutOfBoundsException,IllegalArgumentException",
        "clearBuffer() ",
        "count(int) IllegalArgumentException",
        "cradle(int,int) IndexOutOfBoundsException,IllegalArgumentException",
        "digest() ",
        "doneIn() ",
        "firstError() ",
        "ifPassed(int,int) IndexOutOfBoundsException,IllegalArgumentException",
        "leaf(int,int,int) IndexOutOfBoundsException,IllegalArgumentException",
        "log(int,int) IndexOutOfBoundsException,IllegalArgumentException",
        "openShare() ",
        "pass(int) IllegalArgumentException,IllegalStateException",
        "quickest(int) IndexOutOfBoundsException",
        "reject(int,int) IndexOutOfBoundsException,IllegalStateException",
        "set(int,int) IndexOutOfBoundsException,IllegalArgumentException",
        "setYear(int) IllegalArgumentException",
        "setting(int) IndexOutOfBoundsException",
        "takeBack(int,int) IndexOutOfBoundsException,IllegalStateException",
        "undo() IllegalStateException",
        "volume(int,int) IndexOutOfBoundsException,IllegalArgumentException",
        "whereAt(int,int) IndexOutOfBoundsException,IllegalArgumentException",
        "whyNot(int,int,int) IndexOutOfBoundsException",
    };

    private static int wrong = 0;

    private static void due(String what, Object got, Object want) {
        if (!want.equals(got)) {
            wrong++;
            System.out.println(what + ": " + got + ", due is " + want);
        }
    }

    private static String names(Class<?>[] types) {
        StringBuilder text = new StringBuilder();
        for (Class<?> type : types) {
            text.append(text.length() == 0 ? "" : ",").append(type.getSimpleName());
        }
        return text.toString();
    }

    private static String typeOf(String name) {
        if (name.equals("digest")) {
            return "long";
        }
        return name.equals("openShare") ? "double" : "int";
    }

    private static void testMethods() {
        Set<String> seen = new TreeSet<>();
        Set<String> publicNames = new TreeSet<>();
        Set<String> privateNames = new TreeSet<>();
        for (Method method : LeafCradles.class.getDeclaredMethods()) {
            if (Modifier.isPrivate(method.getModifiers())) {
                privateNames.add(method.getName());
                continue;
            }
            publicNames.add(method.getName());
            due("modifiers of " + method.getName(), method.getModifiers(), Modifier.PUBLIC);
            due("type of " + method.getName(), method.getReturnType().getSimpleName(), typeOf(method.getName()));
            seen.add(method.getName() + "(" + names(method.getParameterTypes()) + ") " + names(method.getExceptionTypes()));
        }
        due("methods", seen, new TreeSet<>(Arrays.asList(METHODS)));
        privateNames.retainAll(publicNames);
        due("private methods with the name of a public one", privateNames, new TreeSet<String>());
    }

    private static void testTheRest() {
        due("the class", LeafCradles.class.getModifiers(), Modifier.PUBLIC | Modifier.FINAL);
        due("constructors", LeafCradles.class.getDeclaredConstructors().length, 1);
        for (Constructor<?> constructor : LeafCradles.class.getDeclaredConstructors()) {
            due("constructor", constructor.getModifiers() + names(constructor.getParameterTypes()), "1");
        }
        Set<String> fields = new TreeSet<>();
        for (Field field : LeafCradles.class.getDeclaredFields()) {
            if (!Modifier.isPrivate(field.getModifiers())) {
                fields.add(Modifier.toString(field.getModifiers()) + " " + field.getName());
            }
        }
        due("fields", fields, new TreeSet<>(Arrays.asList("public static final NONE")));
        for (Class<?> inside : LeafCradles.class.getDeclaredClasses()) {
            due(inside.getSimpleName() + " is static", Modifier.isStatic(inside.getModifiers()), true);
            due(inside.getSimpleName() + " is hidden", Modifier.isPublic(inside.getModifiers()) || Modifier.isProtected(inside.getModifiers()), false);
        }
        due("NONE", LeafCradles.NONE, -1);
    }

    public static void main(String[] args) {
        testMethods();
        testTheRest();
        System.out.println(wrong == 0 ? "the face is as due" : wrong + " things are not as due");
        if (wrong != 0) {
            System.exit(1);
        }
    }
}
