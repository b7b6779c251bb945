import java.lang.reflect.Constructor;
import java.lang.reflect.Field;
import java.lang.reflect.Method;
import java.lang.reflect.Modifier;
import java.util.List;
import java.util.Set;
import java.util.TreeSet;

// The public face is the document's and no more (rule 1 of LANGUAGE.md); LanguageTest has the others.
public final class FaceTest {
    private static final List<String> METHODS = List.of(
            "int open(int,int)", "boolean begin(int)", "boolean money(int,int)",
            "boolean acquire(int,int,int,int)", "boolean release(int,int,int,int)", "boolean rest(int)",
            "int commit()", "boolean drop()", "int count()", "int weight(int,int)",
            "boolean price(int,int,int)", "int priceOn(int,int)", "boolean check(int,int,int)",
            "boolean close(int)", "boolean reopen()", "long profit(int)", "long balance(int,int)",
            "int quantity(int,int,int)", "long lot(int,int,int)", "long printed(int,int,int)");

    private static final List<String> CONSTANTS = List.of(
            "NONE=-1", "FIFO=0", "LIFO=1", "AVERAGE=2",
            "DONE=0", "NO_DRAFT=1", "SHORT=2", "UNBALANCED=3", "LATER=4");

    private static int wrong = 0;

    private static void same(String what, Object got, Object want) {
        if (!got.equals(want)) {
            wrong++;
            System.out.println(what + ": " + got + ", due is " + want);
        }
    }

    public static void main(String[] args) throws IllegalAccessException {
        theClass();
        theMethods();
        theConstants();
        theClassesInside();
        System.out.println(wrong == 0 ? "the face is as due" : wrong + " faults");
        if (wrong != 0) {
            System.exit(1);
        }
    }

    private static void theClass() {
        int modifiers = LotBooks.class.getModifiers();
        same("public and final", Modifier.isPublic(modifiers) && Modifier.isFinal(modifiers), true);
        Constructor<?>[] made = LotBooks.class.getDeclaredConstructors();
        same("constructors", made.length, 1);
        same("a public constructor", Modifier.isPublic(made[0].getModifiers()), true);
        same("its parameters", made[0].getParameterCount(), 0);
    }

    private static void theMethods() {
        Set<String> seen = new TreeSet<>();
        Set<String> names = new TreeSet<>();
        for (Method method : LotBooks.class.getDeclaredMethods()) {
            if (Modifier.isPrivate(method.getModifiers())) {
                continue;
            }
            StringBuilder text = new StringBuilder();
            for (Class<?> type : method.getParameterTypes()) {
                text.append(text.length() == 0 ? "" : ",").append(type.getName());
            }
            seen.add(method.getReturnType().getName() + " " + method.getName() + "(" + text + ")");
            names.add(method.getName());
            same(method.getName() + " is public", Modifier.isPublic(method.getModifiers()), true);
        }
        same("methods", seen, new TreeSet<>(METHODS));
        for (Class<?> inside : LotBooks.class.getDeclaredClasses()) {
            for (Method method : inside.getDeclaredMethods()) {
                same(inside.getSimpleName() + "." + method.getName() + " bears a public name",
                        names.contains(method.getName()), false);
            }
        }
        for (Method method : LotBooks.class.getDeclaredMethods()) {
            if (Modifier.isPrivate(method.getModifiers())) {
                same(method.getName() + " bears a public name", names.contains(method.getName()), false);
            }
        }
    }

    private static void theConstants() throws IllegalAccessException {
        Set<String> seen = new TreeSet<>();
        for (Field field : LotBooks.class.getDeclaredFields()) {
            int modifiers = field.getModifiers();
            if (Modifier.isStatic(modifiers)) {
                same(field.getName() + " is final", Modifier.isFinal(modifiers), true);
            }
            if (Modifier.isPublic(modifiers)) {
                seen.add(field.getName() + "=" + field.getInt(null));
            } else {
                same(field.getName() + " is private", Modifier.isPrivate(modifiers), true);
            }
        }
        same("constants", seen, new TreeSet<>(CONSTANTS));
    }

    private static void theClassesInside() {
        Class<?>[] inside = LotBooks.class.getDeclaredClasses();
        for (Class<?> one : inside) {
            same(one.getSimpleName() + " is static", Modifier.isStatic(one.getModifiers()), true);
            same(one.getSimpleName() + " is not public", Modifier.isPublic(one.getModifiers()), false);
            for (Field field : one.getDeclaredFields()) {
                if (Modifier.isStatic(field.getModifiers())) {
                    same(field.getName() + " is final", Modifier.isFinal(field.getModifiers()), true);
                }
            }
        }
    }
}
