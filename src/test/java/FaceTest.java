import java.io.IOException;
import java.lang.reflect.Constructor;
import java.lang.reflect.Field;
import java.lang.reflect.Member;
import java.lang.reflect.Method;
import java.lang.reflect.Modifier;
import java.nio.file.Files;
import java.nio.file.Path;
import java.util.Arrays;
import java.util.Set;
import java.util.TreeSet;

/** The public face is the document's and nothing more, and the source keeps to LANGUAGE.md. */
public final class FaceTest {
    private static final String SOURCE = "src/main/java/HeaderSqueezer.java";
    private static final String[] FACE = {
        "int setField(int,int) IndexOutOfBoundsException IllegalArgumentException",
        "int setStrides(int,int) IllegalArgumentException",
        "int setPolicy(int,int) IllegalArgumentException",
        "int advance()",
        "int send() IllegalStateException",
        "int stream(int) IllegalArgumentException IllegalStateException",
        "int field(int) IndexOutOfBoundsException",
        "int sizeWith(int,int) IllegalArgumentException",
        "int reference()",
        "int sent(int,int) IndexOutOfBoundsException IllegalArgumentException",
        "int deliver(int) IndexOutOfBoundsException",
        "int deliverAll()",
        "int lose(int) IndexOutOfBoundsException",
        "int copy(int) IndexOutOfBoundsException IllegalStateException",
        "int deliverBack(int) IndexOutOfBoundsException",
        "int loseBack(int) IndexOutOfBoundsException",
        "int waiting(boolean)",
        "int waitingAt(boolean,int) IndexOutOfBoundsException",
        "int setReceiver(int,int,int) IllegalArgumentException",
        "int highest()",
        "int record(int,int) IllegalArgumentException",
        "int records()",
        "int numberFor(int) IllegalArgumentException",
        "int count(int) IllegalArgumentException",
        "int saved()",
        "int lateness()",
        "double meanSize()",
        "int append(int) IllegalArgumentException IllegalStateException",
        "int clearText()",
        "int carryOut()",
        "int undo() IllegalStateException",
        "long digest()",
    };
    // What the rules bar and a reader may overlook.
    private static final String[] BARRED = {"->", "::", "finally", "synchronized", "assert ", "volatile",
        "static {", "System.out", "System.err", "System.nano", "System.current", "Exact(", "hashCode",
        "identityHashCode", "getClass", "getMessage", "\" +", "+ \"", "Random", "Thread",
        "public static class", "protected ", "try (", "Double.", "Float."};
    // What a catch must not take: what the machine throws by its own names, and all exceptions.
    private static final String[] NEVER_CAUGHT = {"Throwable", "Exception", "NullPointerException",
        "ArrayIndexOutOfBoundsException", "StringIndexOutOfBoundsException", "ClassCastException",
        "NegativeArraySizeException", "ArrayStoreException", "StackOverflowError", "OutOfMemoryError"};
    private static final String[] IMPORTS = {"java.util.ArrayList", "java.util.Arrays",
        "java.util.Iterator", "java.util.List", "java.util.NoSuchElementException"};
    private static final int PARAMETERS_MOST = 7;

    private static int wrong = 0;

    private static void check(boolean fine, String what) {
        if (!fine) {
            wrong++;
            System.out.println(what);
        }
    }

    private static String told(Method method) {
        StringBuilder text = new StringBuilder();
        text.append(method.getReturnType().getSimpleName()).append(' ').append(method.getName()).append('(');
        String comma = "";
        for (Class<?> type : method.getParameterTypes()) {
            text.append(comma).append(type.getSimpleName());
            comma = ",";
        }
        text.append(')');
        for (Class<?> type : method.getExceptionTypes()) {
            text.append(' ').append(type.getSimpleName());
        }
        return text.toString();
    }

    private static boolean isOfTheFace(String name) {
        for (String told : FACE) {
            if (told.contains(" " + name + "(")) {
                return true;
            }
        }
        return false;
    }

    private static void checkHidden(Member member) {
        check(Modifier.isPrivate(member.getModifiers()), member.getName() + " is neither face nor private");
    }

    private static void checkFace() {
        Class<?> face = HeaderSqueezer.class;
        check(Modifier.isPublic(face.getModifiers()) && Modifier.isFinal(face.getModifiers()),
                "the class is not public and final");
        Set<String> due = new TreeSet<>(Arrays.asList(FACE));
        Set<String> names = new TreeSet<>();
        for (Method method : face.getDeclaredMethods()) {
            if (Modifier.isPublic(method.getModifiers())) {
                check(due.remove(told(method)), told(method) + " is not in the document");
                check(!Modifier.isStatic(method.getModifiers()), told(method) + " is static");
                names.add(method.getName());
            }
        }
        check(due.isEmpty(), "not there: " + due);
        for (Method method : face.getDeclaredMethods()) {
            if (!Modifier.isPublic(method.getModifiers())) {
                checkHidden(method);
                check(!names.contains(method.getName()), method.getName() + " bears a public name");
            }
        }
        for (Field field : face.getDeclaredFields()) {
            if (!field.getName().equals("NONE")) {
                checkHidden(field);
            }
            check(!Modifier.isStatic(field.getModifiers()) || Modifier.isFinal(field.getModifiers()),
                    field.getName() + " is static and not final");
        }
        Constructor<?>[] constructors = face.getDeclaredConstructors();
        check(constructors.length == 1 && constructors[0].getParameterCount() == 0
                && Modifier.isPublic(constructors[0].getModifiers()), "the constructor is another one");
    }

    private static void checkParts() {
        Class<?>[] parts = HeaderSqueezer.class.getDeclaredClasses();
        check(parts.length <= 12, "too many classes inside");
        for (Class<?> part : parts) {
            int modifiers = part.getModifiers();
            check(Modifier.isStatic(modifiers) && !Modifier.isPublic(modifiers),
                    part + " is not static or is public");
            int fields = 0;
            for (Field field : part.getDeclaredFields()) {
                fields += Modifier.isStatic(field.getModifiers()) ? 0 : 1;
            }
            check(fields <= 20, part + " has too many fields");
            checkParameters(part);
            for (Method method : part.getDeclaredMethods()) {
                check(!Modifier.isPrivate(method.getModifiers()) || !isOfTheFace(method.getName()),
                        method + " bears a public name");
            }
        }
    }

    private static void checkParameters(Class<?> type) {
        for (Method method : type.getDeclaredMethods()) {
            check(method.getParameterCount() <= PARAMETERS_MOST, method + " has too many parameters");
        }
    }

    private static String withoutComments(String source) {
        return source.replaceAll("(?s)/\\*.*?\\*/", "").replaceAll("//[^\n]*", "");
    }

    private static void checkWords(String code) {
        for (String barred : BARRED) {
            check(!code.contains(barred), "the source has '" + barred + "'");
        }
        for (String caught : NEVER_CAUGHT) {
            check(!code.contains("catch (" + caught + " ") && !code.contains("| " + caught + " "),
                    "the source catches " + caught);
        }
    }

    private static void checkImports(String code) {
        for (String line : code.split("\n")) {
            check(!line.startsWith("package "), "the source has a package line");
            if (line.startsWith("import ")) {
                String name = line.substring(7).replace(";", "").trim();
                check(Arrays.asList(IMPORTS).contains(name), "the source imports " + name);
            }
        }
    }

    private static void checkSource() throws IOException {
        String source = Files.readString(Path.of(SOURCE));
        check(source.chars().allMatch(c -> c == '\n' || c >= ' ' && c < 127), "a sign beyond ASCII");
        String code = withoutComments(source);
        checkWords(code);
        checkImports(code);
    }

    public static void main(String[] args) throws IOException {
        checkFace();
        checkParameters(HeaderSqueezer.class);
        checkParts();
        checkSource();
        System.out.println(wrong == 0 ? "the face is as due" : wrong + " faults of the face");
        if (wrong != 0) {
            System.exit(1);
        }
    }
}
