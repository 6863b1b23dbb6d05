import java.lang.reflect.Constructor;
import java.lang.reflect.Field;
import java.lang.reflect.Method;
import java.lang.reflect.Modifier;
import java.util.Arrays;
import java.util.Set;
import java.util.TreeSet;

/** The class has the document's face and no more (rules 1, 2 and 5 of LANGUAGE.md). */
public final class FaceTest {
    private static final String[] FACE = {
        "int feed int int int int int", "boolean end int", "int play", "int fault int", "int tick int",
        "int start int", "int say int int int", "boolean walk int int int", "int set int int",
        "int variable int", "int slot int int", "int actor int int", "int object int int", "int verb int int",
        "int box int int int", "int neighbours int int int", "int way int int int", "int goal int int int",
        "int note int", "int sentence int int", "int count int", "boolean keep", "boolean back"};

    public static void main(String[] args) {
        hasJustTheFace();
        namesItsExceptions();
        hidesAllElse();
        hasNoOtherStaticState();
        Check.finish();
    }

    private static void hasJustTheFace() {
        Set<String> found = new TreeSet<>();
        for (Method method : StageHouse.class.getDeclaredMethods()) {
            if (!Modifier.isPrivate(method.getModifiers())) {
                StringBuilder told = new StringBuilder(method.getReturnType() + " " + method.getName());
                for (Class<?> type : method.getParameterTypes()) {
                    told.append(' ').append(type);
                }
                found.add(told.toString());
                Check.due("public: " + told, Modifier.isPublic(method.getModifiers()), true);
                Check.due("of an object: " + told, Modifier.isStatic(method.getModifiers()), false);
            }
        }
        Check.due("the methods " + found, found.equals(new TreeSet<>(Arrays.asList(FACE))), true);
        Check.due("public and final", StageHouse.class.getModifiers(), Modifier.PUBLIC | Modifier.FINAL);
        Constructor<?>[] made = StageHouse.class.getDeclaredConstructors();
        Check.due("constructors", made.length, 1);
        Check.due("its parameters", made[0].getParameterCount(), 0);
        Check.due("it is public", Modifier.isPublic(made[0].getModifiers()), true);
    }

    private static void namesItsExceptions() {
        Set<String> noSuch = Set.of("set", "variable", "actor", "object", "note", "sentence");
        for (Method method : StageHouse.class.getDeclaredMethods()) {
            if (Modifier.isPublic(method.getModifiers())) {
                String due = method.getName().equals("play") ? "[class java.lang.IllegalArgumentException]"
                    : noSuch.contains(method.getName()) ? "[class java.util.NoSuchElementException]" : "[]";
                String got = Arrays.toString(method.getExceptionTypes());
                Check.due(method.getName() + " throws " + got, got.equals(due), true);
            }
        }
    }

    private static void hidesAllElse() {
        Set<String> names = new TreeSet<>();
        for (String told : FACE) {
            names.add(told.split(" ")[1]);
        }
        for (Method method : StageHouse.class.getDeclaredMethods()) {
            if (Modifier.isPrivate(method.getModifiers())) {
                Check.due("private " + method.getName(), names.contains(method.getName()), false);
            }
        }
        for (Field field : StageHouse.class.getDeclaredFields()) {
            boolean isPublic = Modifier.isPublic(field.getModifiers());
            Check.due("field " + field.getName(), isPublic, field.getName().equals("NONE"));
            Check.due("or private", isPublic || Modifier.isPrivate(field.getModifiers()), true);
        }
        Class<?>[] inside = StageHouse.class.getDeclaredClasses();
        Check.due("at most twelve classes", inside.length < 12, true);
        for (Class<?> type : inside) {
            Check.due("private: " + type, Modifier.isPrivate(type.getModifiers()), true);
            Check.due("static: " + type, Modifier.isStatic(type.getModifiers()), true);
            for (Method method : type.getDeclaredMethods()) {
                Check.due(type + "'s " + method.getName(), names.contains(method.getName()), false);
                Check.due("its parameters", method.getParameterCount() <= 7, true);
            }
        }
    }

    private static void hasNoOtherStaticState() {
        Check.due("fields of an object", Arrays.stream(StageHouse.class.getDeclaredFields())
            .filter(f -> !Modifier.isStatic(f.getModifiers())).count() <= 20, true);
        for (Field field : StageHouse.class.getDeclaredFields()) {
            if (Modifier.isStatic(field.getModifiers())) {
                Class<?> type = field.getType();
                Check.due("final: " + field, Modifier.isFinal(field.getModifiers()), true);
                Check.due("int or a row of them: " + field, type == int.class || type == int[].class, true);
            }
        }
        for (Class<?> type : StageHouse.class.getDeclaredClasses()) {
            for (Field field : type.getDeclaredFields()) {
                Check.due("static: " + field, Modifier.isStatic(field.getModifiers()), false);
            }
        }
    }
}
