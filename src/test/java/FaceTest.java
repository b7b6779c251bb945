import java.io.IOException;
import java.lang.reflect.Constructor;
import java.lang.reflect.Field;
import java.lang.reflect.Method;
import java.lang.reflect.Modifier;
import java.nio.file.Files;
import java.nio.file.Path;
import java.util.List;
import java.util.Set;
import java.util.TreeSet;
import java.util.regex.Matcher;
import java.util.regex.Pattern;

// The public face is the document's and no more, and the source keeps to those rules of LANGUAGE.md
// that can be read off it. Run from the project's root.
public final class FaceTest {
    private static final Path SOURCE = Path.of("src/main/java/LotBooks.java");
    private static final int LONGEST_METHOD = 60;

    private static final List<String> METHODS = List.of(
            "int open(int,int)", "boolean begin(int)", "boolean money(int,int)",
            "boolean acquire(int,int,int,int)", "boolean release(int,int,int,int)", "boolean rest(int)",
            "int commit()", "boolean drop()", "int count()", "int weight(int,int)",
            "boolean price(int,int,int)", "int priceOn(int,int)", "boolean check(int,int,int)",
            "boolean close(int)", "boolean reopen()", "long profit(int)", "long balance(int,int)",
            "int quantity(int,int,int)", "long lot(int,int,int)", "long printed(int,int,int)");

    private static final List<String> CONSTANTS = List.of(
            "NONE=-1", "FIFO=0", "LIFO=1", "AVERAGE=2",
            "DONE=0", "NO_DRAFT=1", "SHORT=2", "UNBALANCED=3", "LATER=4");

    private static int wrong = 0;

    private static void same(String what, Object got, Object want) {
        if (!got.equals(want)) {
            wrong++;
            System.out.println(what + ": " + got + ", due is " + want);
        }
    }

    public static void main(String[] args) throws IOException, IllegalAccessException {
        theClass();
        theMethods();
        theConstants();
        theClassesInside();
        theSource(Files.readString(SOURCE));
        System.out.println(wrong == 0 ? "the face is as due" : wrong + " faults");
        if (wrong != 0) {
            System.exit(1);
        }
    }

    private static void theClass() {
        int modifiers = LotBooks.class.getModifiers();
        same("public and final", Modifier.isPublic(modifiers) && Modifier.isFinal(modifiers), true);
        Constructor<?>[] made = LotBooks.class.getDeclaredConstructors();
        same("constructors", made.length, 1);
        same("a public constructor", Modifier.isPublic(made[0].getModifiers()), true);
        same("its parameters", made[0].getParameterCount(), 0);
    }

    private static void theMethods() {
        Set<String> seen = new TreeSet<>();
        Set<String> names = new TreeSet<>();
        for (Method method : LotBooks.class.getDeclaredMethods()) {
            if (Modifier.isPrivate(method.getModifiers())) {
                continue;
            }
            StringBuilder text = new StringBuilder();
            for (Class<?> type : method.getParameterTypes()) {
                text.append(text.length() == 0 ? "" : ",").append(type.getName());
            }
            seen.add(method.getReturnType().getName() + " " + method.getName() + "(" + text + ")");
            names.add(method.getName());
            same(method.getName() + " is public", Modifier.isPublic(method.getModifiers()), true);
        }
        same("methods", seen, new TreeSet<>(METHODS));
        for (Class<?> inside : LotBooks.class.getDeclaredClasses()) {
            for (Method method : inside.getDeclaredMethods()) {
                same(inside.getSimpleName() + "." + method.getName() + " bears a public name",
                        names.contains(method.getName()), false);
            }
        }
        for (Method method : LotBooks.class.getDeclaredMethods()) {
            if (Modifier.isPrivate(method.getModifiers())) {
                same(method.getName() + " bears a public name", names.contains(method.getName()), false);
            }
        }
    }

    private static void theConstants() throws IllegalAccessException {
        Set<String> seen = new TreeSet<>();
        for (Field field : LotBooks.class.getDeclaredFields()) {
            int modifiers = field.getModifiers();
            if (Modifier.isStatic(modifiers)) {
                same(field.getName() + " is final", Modifier.isFinal(modifiers), true);
            }
            if (Modifier.isPublic(modifiers)) {
                seen.add(field.getName() + "=" + field.getInt(null));
            } else {
                same(field.getName() + " is private", Modifier.isPrivate(modifiers), true);
            }
        }
        same("constants", seen, new TreeSet<>(CONSTANTS));
    }

    private static void theClassesInside() {
        Class<?>[] inside = LotBooks.class.getDeclaredClasses();
        same("at most twelve classes", inside.length + 1 <= 12, true);
        for (Class<?> one : inside) {
            same(one.getSimpleName() + " is static", Modifier.isStatic(one.getModifiers()), true);
            same(one.getSimpleName() + " is not public", Modifier.isPublic(one.getModifiers()), false);
            for (Field field : one.getDeclaredFields()) {
                if (Modifier.isStatic(field.getModifiers())) {
                    same(field.getName() + " is final", Modifier.isFinal(field.getModifiers()), true);
                }
            }
        }
    }

    private static void theSource(String source) {
        String code = source.replaceAll("(?s)/\\*.*?\\*/", "").replaceAll("//[^\n]*", "");
        String banned = "\\b(throw|throws|try|catch|synchronized|assert|package|record|native|volatile"
                + "|hashCode|toString|Random|Object|System\\.out|nanoTime|currentTimeMillis)\\b|->|::|Exact\\(";
        Matcher word = Pattern.compile(banned).matcher(code);
        while (word.find()) {
            same("a word that LANGUAGE.md leaves out", word.group(), "");
        }
        Matcher line = Pattern.compile("import ([^;]*);").matcher(code);
        while (line.find()) {
            same(line.group(1) + " may be imported", Set.of("java.util.Arrays", "java.util.ArrayList",
                    "java.util.List", "java.util.Iterator").contains(line.group(1)), true);
        }
        methodsStayShort(code);
    }

    /** A method's lines are those between its head and the brace that stands under it. */
    private static void methodsStayShort(String code) {
        String[] lines = code.split("\n");
        for (int i = 0; i < lines.length; i++) {
            Matcher head = Pattern.compile("^( {4,8})(?!if|for|while|switch)\\w.*\\)? \\{$").matcher(lines[i]);
            if (!head.matches() || lines[i].contains(" class ")) {
                continue;
            }
            int end = i;
            while (end < lines.length && !lines[end].equals(head.group(1) + "}")) {
                end++;
            }
            same(lines[i].trim() + " is short", end - i <= LONGEST_METHOD, true);
        }
    }
}
