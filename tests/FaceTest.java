import java.io.IOException;
import java.lang.reflect.Constructor;
import java.lang.reflect.Field;
import java.lang.reflect.Member;
import java.lang.reflect.Method;
import java.lang.reflect.Modifier;
import java.nio.charset.StandardCharsets;
import java.nio.file.Files;
import java.nio.file.Path;
import java.util.Arrays;
import java.util.List;
import java.util.Set;
import java.util.TreeSet;
import java.util.regex.Matcher;
import java.util.regex.Pattern;

/** The public face of the document, and the rules of LANGUAGE.md that a test can look at. */
public final class FaceTest {
    private static final String[] METHODS = {
        "int addCore(int) IllegalArgumentException IllegalStateException",
        "int setLimit(int) IllegalArgumentException",
        "int setCap(int) IllegalArgumentException",
        "int heat(int) IndexOutOfBoundsException",
        "int pace(int) IndexOutOfBoundsException",
        "int addGroup(int,int) IndexOutOfBoundsException IllegalArgumentException"
            + " IllegalStateException",
        "int addPlain(int,int,int) IndexOutOfBoundsException IllegalArgumentException"
            + " IllegalStateException",
        "int addTimed(int,int,int,int) IndexOutOfBoundsException IllegalArgumentException"
            + " UnsupportedOperationException IllegalStateException",
        "int end(int) NoSuchElementException IllegalStateException",
        "int left(int) NoSuchElementException",
        "char stateOf(int) NoSuchElementException",
        "long timeOf(int) NoSuchElementException",
        "long timeOfGroup(int) IndexOutOfBoundsException",
        "int doneBy(int) NoSuchElementException",
        "int doneIn(int) IndexOutOfBoundsException",
        "int admitted()",
        "int promise()",
        "int deadlineOf(int) NoSuchElementException UnsupportedOperationException",
        "int urgencyOf(int) NoSuchElementException",
        "int missesOf(int) NoSuchElementException",
        "int misses()",
        "boolean take(int,int) NoSuchElementException IndexOutOfBoundsException"
            + " IllegalStateException UnsupportedOperationException",
        "int release(int) IndexOutOfBoundsException IllegalStateException",
        "int holderOf(int) IndexOutOfBoundsException",
        "int waiterAt(int,int) IndexOutOfBoundsException NoSuchElementException",
        "int choice(int) IndexOutOfBoundsException",
        "int choiceByComparing(int) IndexOutOfBoundsException",
        "int pass(int) IllegalArgumentException IllegalStateException",
        "int now()",
        "int moves()",
        "float usedShare() ArithmeticException",
        "double meanHeat() ArithmeticException",
        "boolean isSound()",
    };

    private static final Pattern CALL = Pattern.compile("\\.(\\w+)\\(");

    private static final Checks checks = new Checks();

    public static void main(String[] args) {
        checks.test("the methods of the face", FaceTest::methods);
        checks.test("nothing else is seen from outside", FaceTest::nothingElse);
        checks.test("static fields are final, names are not shared", FaceTest::fieldsAndNames);
        checks.test("the words of the file", FaceTest::words);
        checks.test("the calls in the file", FaceTest::calls);
        checks.test("the classes inside", FaceTest::classesInside);
        checks.test("the lengths in the file", FaceTest::lengths);
        checks.finish();
    }

    private static void methods() {
        Set<String> found = new TreeSet<>();
        for (Method m : TaskKernel.class.getDeclaredMethods()) {
            if (Modifier.isPublic(m.getModifiers())) {
                StringBuilder text = new StringBuilder();
                text.append(m.getReturnType()).append(' ').append(m.getName()).append('(');
                for (int i = 0; i < m.getParameterCount(); i++) {
                    text.append(i > 0 ? "," : "").append(m.getParameterTypes()[i]);
                }
                text.append(')');
                for (Class<?> thrown : m.getExceptionTypes()) {
                    text.append(' ').append(thrown.getSimpleName());
                }
                found.add(text.toString());
                checks.due(m + " is static", Modifier.isStatic(m.getModifiers()), false);
            }
        }
        checks.due("the methods", found, new TreeSet<>(Arrays.asList(METHODS)));
    }

    private static void nothingElse() {
        int form = TaskKernel.class.getModifiers();
        checks.due("the class is public and final", form, Modifier.PUBLIC | Modifier.FINAL);
        Constructor<?>[] makers = TaskKernel.class.getDeclaredConstructors();
        checks.due("constructors", makers.length, 1);
        checks.due("the constructor is public", Modifier.isPublic(makers[0].getModifiers()), true);
        checks.due("its parameters", makers[0].getParameterCount(), 0);
        for (Field field : TaskKernel.class.getDeclaredFields()) {
            privateOnly(field);
        }
        for (Method method : TaskKernel.class.getDeclaredMethods()) {
            if (!Modifier.isPublic(method.getModifiers())) {
                privateOnly(method);
            }
        }
        for (Class<?> inside : TaskKernel.class.getDeclaredClasses()) {
            checks.due(inside + " is static", Modifier.isStatic(inside.getModifiers()), true);
            checks.due(inside + " is public", Modifier.isPublic(inside.getModifiers()), false);
        }
    }

    private static void privateOnly(Member member) {
        checks.due(member + " is private", Modifier.isPrivate(member.getModifiers()), true);
    }

    private static void fieldsAndNames() {
        Set<String> open = new TreeSet<>();
        for (Method method : TaskKernel.class.getDeclaredMethods()) {
            if (Modifier.isPublic(method.getModifiers())) {
                open.add(method.getName());
            }
        }
        List<Class<?>> classes = new java.util.ArrayList<>();
        classes.add(TaskKernel.class);
        classes.addAll(Arrays.asList(TaskKernel.class.getDeclaredClasses()));
        checks.due("at most 12 classes", classes.size() <= 12, true);
        for (Class<?> c : classes) {
            int fields = 0;
            for (Field field : c.getDeclaredFields()) {
                boolean isStatic = Modifier.isStatic(field.getModifiers());
                fields += isStatic ? 0 : 1;
                checks.due(field + " is final if static",
                        isStatic && !Modifier.isFinal(field.getModifiers()), false);
            }
            checks.due(c + " has at most 20 fields", fields <= 20, true);
            for (Method method : c.getDeclaredMethods()) {
                if (Modifier.isPrivate(method.getModifiers())) {
                    checks.due(method + " bears a public name", open.contains(method.getName()), false);
                    checks.due(method + " has at most 7 parameters",
                            method.getParameterCount() <= 7, true);
                }
            }
        }
    }

    private static List<String> lines() {
        try {
            return Files.readAllLines(Path.of("src/main/java/TaskKernel.java"),
                    StandardCharsets.US_ASCII);
        } catch (IOException e) {
            throw new IllegalStateException(e);
        }
    }

    private static void words() {
        String[] ruledOut = {"->", "::", "try {", "catch (", "finally", "synchronized", "assert ",
            "package ", "Exact(", "hashCode", "toString", "Object ", "System.", "Thread", "native"};
        for (String line : lines()) {
            for (String word : ruledOut) {
                checks.due("'" + word + "' in: " + line, line.contains(word), false);
            }
            if (line.startsWith("import ")) {
                checks.due(line, line.equals("import java.util.ArrayList;")
                        || line.equals("import java.util.NoSuchElementException;"), true);
            }
        }
    }

    /** Rule 4: what is called with a dot is a method of the file or one of the library's list. */
    private static void calls() {
        Set<String> known = new TreeSet<>(List.of("add", "get", "size", "isEmpty", "remove", "min",
                "max"));
        for (Class<?> c : TaskKernel.class.getDeclaredClasses()) {
            for (Method method : c.getDeclaredMethods()) {
                known.add(method.getName());
            }
        }
        for (String line : lines()) {
            Matcher call = CALL.matcher(line);
            while (call.find()) {
                checks.due(call.group(1) + " may be called: " + line, known.contains(call.group(1)),
                        true);
            }
        }
    }

    /** Rules 1 and 6: private members alone, no exceptions of its own, no throw in a constructor. */
    private static void classesInside() {
        for (Class<?> c : TaskKernel.class.getDeclaredClasses()) {
            checks.due(c + " is no exception", Throwable.class.isAssignableFrom(c), false);
            for (Field field : c.getDeclaredFields()) {
                privateOnly(field);
            }
            for (Method method : c.getDeclaredMethods()) {
                privateOnly(method);
            }
            for (Constructor<?> maker : c.getDeclaredConstructors()) {
                checks.due(maker + " throws", maker.getExceptionTypes().length, 0);
                int parameters = maker.getParameterCount();
                checks.due(maker + " has at most 7 parameters", parameters <= 7, true);
            }
        }
        boolean inMaker = false;
        for (String line : lines()) {
            if (line.matches(" {4}( {4})?(private|public) [A-Z]\\w*\\(.*")) {
                inMaker = true;
            } else if (line.matches(" {4}( {4})?}")) {
                inMaker = false;
            }
            boolean throwing = line.contains("throw ");
            checks.due("a throw in a constructor: " + line, inMaker && throwing, false);
        }
    }

    private static void lengths() {
        int start = 0;
        List<String> all = lines();
        for (int i = 0; i < all.size(); i++) {
            String line = all.get(i);
            checks.due("the length of: " + line, line.length() <= 100, true);
            if (line.matches(" {4}\\S.*")) {
                checks.due("the method that ends in line " + (i + 1) + " is short", i - start <= 60, true);
                start = i;
            }
        }
    }
}
