import java.lang.reflect.Constructor;
import java.lang.reflect.Field;
import java.lang.reflect.Method;
import java.lang.reflect.Modifier;
import java.util.ArrayList;
import java.util.Arrays;
import java.util.Collections;
import java.util.HashSet;
import java.util.List;
import java.util.Set;

/** The public face is that of the document and nothing more, and no other method bears its names. */
final class FaceTest {
    private static final String[] FACE = {
        "int field(int, int)", "int feed(int, int, int, int, int)", "int tell(int, int) IllegalArgumentException",
        "int fault()", "int count(int) NoSuchElementException", "int element(int, int, int) NoSuchElementException",
        "int log(int) NoSuchElementException", "int trace(int) NoSuchElementException",
        "int character(int, int) NoSuchElementException", "int order(int) NoSuchElementException",
        "int coefficient(int, int) NoSuchElementException", "long of(int, int) NoSuchElementException",
        "boolean same(int, int) NoSuchElementException", "int make(int, int, int, int, int)",
        "int divide(int, int, int)",
        "int solutions(int, int, int, int, int) NoSuchElementException IllegalArgumentException",
        "int points(int, int, int, int) NoSuchElementException IllegalArgumentException",
        "int rows(int, int, int) NoSuchElementException IllegalArgumentException",
        "int lifted(int, int, int) IllegalArgumentException", "int curve(int, int) NoSuchElementException",
        "int least(int, int) NoSuchElementException",
        "int let(int, int) NoSuchElementException IllegalArgumentException", "int alike(int) NoSuchElementException",
        "int mark(int) NoSuchElementException", "int differences(int) NoSuchElementException",
        "int cyclotomic(int, int, int) NoSuchElementException", "int say(int) NoSuchElementException", "int said(int)"
    };

    public static void main(String[] args) {
        methods();
        otherMembers();
        namesWithin();
        Check.finish();
    }

    private static void methods() {
        List<String> found = new ArrayList<>();
        for (Method method : CharacterSums.class.getDeclaredMethods()) {
            if (!Modifier.isPrivate(method.getModifiers())) {
                found.add((Modifier.isPublic(method.getModifiers()) ? "" : "not public ") + told(method));
            }
        }
        List<String> due = new ArrayList<>(Arrays.asList(FACE));
        Collections.sort(found);
        Collections.sort(due);
        Check.equal("methods", found.toString(), due.toString());
    }

    private static String told(Method method) {
        StringBuilder all = new StringBuilder(method.getReturnType() + " " + method.getName() + "(");
        for (int i = 0; i < method.getParameterCount(); i++) {
            all.append(i > 0 ? ", " : "").append(method.getParameterTypes()[i]);
        }
        all.append(")");
        for (Class<?> thrown : method.getExceptionTypes()) {
            all.append(" ").append(thrown.getSimpleName());
        }
        return all.toString();
    }

    private static void otherMembers() {
        Class<?> face = CharacterSums.class;
        Check.equal("the class", Modifier.toString(face.getModifiers()), "public final");
        for (Field field : face.getDeclaredFields()) {
            boolean constant = field.getName().equals("NONE");
            String due = constant ? "public static final" : "private";
            Check.equal(field.getName(), Modifier.toString(field.getModifiers()).startsWith(due) + "", "true");
        }
        Constructor<?>[] constructors = face.getDeclaredConstructors();
        Check.equal("constructors", constructors.length + " " + constructors[0], "1 public CharacterSums()");
        for (Class<?> inside : face.getDeclaredClasses()) {
            int kind = inside.getModifiers();
            boolean fits = Modifier.isStatic(kind) && !Modifier.isPublic(kind) && !Modifier.isProtected(kind);
            Check.equal(inside.getName(), fits + "", "true");
        }
    }

    private static void namesWithin() {
        Set<String> taken = new HashSet<>();
        for (String method : FACE) {
            taken.add(method.substring(method.indexOf(' ') + 1, method.indexOf('(')));
        }
        List<Class<?>> all = new ArrayList<>(Arrays.asList(CharacterSums.class.getDeclaredClasses()));
        for (Class<?> inside : all) {
            for (Method method : inside.getDeclaredMethods()) {
                Check.equal(method.toString() + " bears a name of the face", taken.contains(method.getName()) + "", "false");
            }
        }
        for (Method method : CharacterSums.class.getDeclaredMethods()) {
            if (Modifier.isPrivate(method.getModifiers())) {
                Check.equal(method.toString() + " bears a name of the face", taken.contains(method.getName()) + "", "false");
            }
        }
    }
}
