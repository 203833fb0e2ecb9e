import java.io.IOException;
import java.lang.reflect.Constructor;
import java.lang.reflect.Field;
import java.lang.reflect.Member;
import java.lang.reflect.Method;
import java.lang.reflect.Modifier;
import java.nio.file.Files;
import java.nio.file.Path;
import java.util.Arrays;
import java.util.Set;
import java.util.TreeSet;

/** The public face is the document's and nothing more, and the source keeps to LANGUAGE.md. */
public final class FaceTest {
    private static final String SOURCE = "src/main/java/HeaderSqueezer.java";
    private static final String[] FACE = {
        "int setField(int,int) IndexOutOfBoundsException IllegalArgumentException",
        "int setStrides(int,int) IllegalArgumentException",
        "int setPolicy(int,int) IllegalArgumentException",
        "int advance()",
        "int send() IllegalStateException",
        "int stream(int) IllegalArgumentException IllegalStateException",
        "int field(int) IndexOutOfBoundsException",
        "int sizeWith(int,int) IllegalArgumentException",
        "int reference()",
        "int sent(int,int) IndexOutOfBoundsException IllegalArgumentException",
        "int deliver(int) IndexOutOfBoundsException",
        "int deliverAll()",
        "int lose(int) IndexOutOfBoundsException",
        "int copy(int) IndexOutOfBoundsException IllegalStateException",
        "int deliverBack(int) IndexOutOfBoundsException",
        "int loseBack(int) IndexOutOfBoundsException",
        "int waiting(boolean)",
        "int waitingAt(boolean,int) IndexOutOfBoundsException",
        "int setReceiver(int,int,int) IllegalArgumentException",
        "int highest()",
        "int record(int,int) IllegalArgumentException",
        "int records()",
        "int numberFor(int) IllegalArgumentException",
        "int count(int) IllegalArgumentException",
        "int saved()",
        "int lateness()",
        "double meanSize()",
        "int append(int) IllegalArgumentException IllegalStateException",
        "int clearText()",
        "int carryOut()",
        "int undo() IllegalStateException",
        "long digest()",
    };
    // What the rules leave out and a reader may overlook.
    private static final String[] BARRED = {"package ", "->", "::", "catch", "finally", "synchronized",
        "assert", "System.out", "System.nano", "System.current", "Exact(", ".equals(", "hashCode",
        "toString", "instanceof", "+ \"", "\" +", "float", "protected "};

    private static int wrong = 0;

    private static void check(boolean fine, String what) {
        if (!fine) {
            wrong++;
            System.out.println(what);
        }
    }

    private static String told(Method method) {
        StringBuilder text = new StringBuilder();
        text.append(method.getReturnType().getSimpleName()).append(' ').append(method.getName()).append('(');
        String comma = "";
        for (Class<?> type : method.getParameterTypes()) {
            text.append(comma).append(type.getSimpleName());
            comma = ",";
        }
        text.append(')');
        for (Class<?> type : method.getExceptionTypes()) {
            text.append(' ').append(type.getSimpleName());
        }
        return text.toString();
    }

    private static void checkHidden(Member member) {
        check(Modifier.isPrivate(member.getModifiers()), member.getName() + " is neither face nor private");
    }

    private static void checkFace() {
        Class<?> face = HeaderSqueezer.class;
        check(Modifier.isPublic(face.getModifiers()) && Modifier.isFinal(face.getModifiers()),
                "the class is not public and final");
        Set<String> due = new TreeSet<>(Arrays.asList(FACE));
        Set<String> names = new TreeSet<>();
        for (Method method : face.getDeclaredMethods()) {
            if (Modifier.isPublic(method.getModifiers())) {
                check(due.remove(told(method)), told(method) + " is not in the document");
                check(!Modifier.isStatic(method.getModifiers()), told(method) + " is static");
                names.add(method.getName());
            }
        }
        check(due.isEmpty(), "not there: " + due);
        for (Method method : face.getDeclaredMethods()) {
            if (!Modifier.isPublic(method.getModifiers())) {
                checkHidden(method);
                check(!names.contains(method.getName()), method.getName() + " bears a public name");
            }
        }
        for (Field field : face.getDeclaredFields()) {
            if (!field.getName().equals("NONE")) {
                checkHidden(field);
            }
            check(!Modifier.isStatic(field.getModifiers()) || Modifier.isFinal(field.getModifiers()),
                    field.getName() + " is static and not final");
        }
        Constructor<?>[] constructors = face.getDeclaredConstructors();
        check(constructors.length == 1 && constructors[0].getParameterCount() == 0
                && Modifier.isPublic(constructors[0].getModifiers()), "the constructor is another one");
    }

    private static void checkParts() {
        Class<?>[] parts = HeaderSqueezer.class.getDeclaredClasses();
        check(parts.length <= 12, "too many classes inside");
        for (Class<?> part : parts) {
            int modifiers = part.getModifiers();
            check(Modifier.isStatic(modifiers) && !Modifier.isPublic(modifiers),
                    part + " is not static or is public");
            int fields = 0;
            for (Field field : part.getDeclaredFields()) {
                fields += Modifier.isStatic(field.getModifiers()) ? 0 : 1;
            }
            check(fields <= 20, part + " has too many fields");
        }
    }

    private static void checkSource() throws IOException {
        String source = Files.readString(Path.of(SOURCE));
        for (String barred : BARRED) {
            check(!source.contains(barred), "the source has '" + barred + "'");
        }
        for (String line : source.split("\n")) {
            check(!line.startsWith("import ") || line.equals("import java.util.Arrays;"), line);
            check(line.length() <= 100, "a long line: " + line);
        }
        check(source.chars().allMatch(c -> c == '\n' || c >= ' ' && c < 127), "a sign beyond ASCII");
    }

    public static void main(String[] args) throws IOException {
        checkFace();
        checkParts();
        checkSource();
        System.out.println(wrong == 0 ? "the face is as due" : wrong + " faults of the face");
        if (wrong != 0) {
            System.exit(1);
        }
    }
}
