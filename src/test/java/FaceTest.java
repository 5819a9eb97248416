import java.lang.reflect.Constructor;
import java.lang.reflect.Field;
import java.lang.reflect.Method;
import java.lang.reflect.Modifier;
import java.util.ArrayList;
import java.util.List;
import java.util.Set;
import java.util.TreeSet;

/** The public face: its constant, constructor and methods, with what they throw, and nothing besides. */
final class FaceTest {
    private static final String[] METHODS = {
        "about(int) IllegalArgumentException",
        "append(int) IllegalArgumentException IllegalStateException",
        "bankruptAfter(int) IndexOutOfBoundsException",
        "bestContract(int) IndexOutOfBoundsException",
        "buyTrack(int,int) IndexOutOfBoundsException IllegalStateException",
        "buyTrain(int,int) IndexOutOfBoundsException IllegalArgumentException IllegalStateException",
        "clearText()",
        "coinsAfter(int,int) IndexOutOfBoundsException IllegalArgumentException",
        "company(int,int) IndexOutOfBoundsException IllegalArgumentException",
        "contract(int,int) IndexOutOfBoundsException IllegalArgumentException",
        "endRound()",
        "errorPosition()",
        "levelFor(int,int) IndexOutOfBoundsException",
        "load() IllegalStateException",
        "offer(int,int,int,int) IndexOutOfBoundsException IllegalArgumentException IllegalStateException",
        "restore(int) IndexOutOfBoundsException IllegalStateException",
        "run(int,int) IndexOutOfBoundsException IllegalStateException",
        "runScript(int,long) IllegalArgumentException",
        "save(int) IndexOutOfBoundsException",
        "setRent(int,int) IndexOutOfBoundsException IllegalArgumentException",
        "simulate(long,int) IllegalArgumentException",
        "take(int,int) IndexOutOfBoundsException IllegalStateException",
        "track(int,int) IndexOutOfBoundsException IllegalArgumentException",
        "train(int,int,int) IndexOutOfBoundsException IllegalArgumentException",
        "undo() IllegalStateException",
        "way(int,int,int,int,int) IndexOutOfBoundsException IllegalArgumentException",
        "whyNot(int,int) IndexOutOfBoundsException",
        "worth(int) IndexOutOfBoundsException",
    };

    public static void main(String[] args) throws ReflectiveOperationException {
        Checks checks = new Checks();
        Class<?> face = RustRails.class;
        checks.due("public and final", 1, () -> Modifier.isPublic(face.getModifiers())
                && Modifier.isFinal(face.getModifiers()) ? 1 : 0);
        checks.same("methods", methods(face).toString(), new TreeSet<>(Set.of(METHODS)).toString());
        checks.same("names of the face on other methods", namesUsedAgain(face), "");
        checks.same("fields", fields(face), "NONE ");
        checks.same("constructors", constructors(face), "public RustRails()");
        checks.due("NONE", -9, () -> RustRails.NONE);
        checks.end();
    }

    private static Set<String> methods(Class<?> face) {
        Set<String> found = new TreeSet<>();
        for (Method method : face.getDeclaredMethods()) {
            if (!Modifier.isPrivate(method.getModifiers())) {
                StringBuilder line = new StringBuilder(method.getName()).append("(");
                for (Class<?> type : method.getParameterTypes()) {
                    line.append(line.charAt(line.length() - 1) == '(' ? "" : ",").append(type.getSimpleName());
                }
                line.append(")");
                for (Class<?> type : method.getExceptionTypes()) {
                    line.append(" ").append(type.getSimpleName());
                }
                boolean answersInt = method.getReturnType() == int.class && !Modifier.isStatic(method.getModifiers());
                found.add(answersInt ? line.toString() : "not an int method: " + line);
            }
        }
        return found;
    }

    /** Rule 1 of LANGUAGE.md: the names of the public methods are theirs alone, in the classes inside, too. */
    private static String namesUsedAgain(Class<?> face) {
        StringBuilder found = new StringBuilder();
        String faceNames = " " + String.join(" ", METHODS).replace('(', ' ');
        List<Method> methods = new ArrayList<>(List.of(face.getDeclaredMethods()));
        methods.removeIf(method -> Modifier.isPublic(method.getModifiers()));
        for (Class<?> inside : face.getDeclaredClasses()) {
            methods.addAll(List.of(inside.getDeclaredMethods()));
        }
        for (Method method : methods) {
            if (faceNames.contains(" " + method.getName() + " ")) {
                found.append(method.getName()).append(" ");
            }
        }
        return found.toString();
    }

    private static String fields(Class<?> face) {
        StringBuilder found = new StringBuilder();
        for (Field field : face.getDeclaredFields()) {
            if (!Modifier.isPrivate(field.getModifiers())) {
                found.append(field.getName()).append(" ");
            }
        }
        return found.toString();
    }

    private static String constructors(Class<?> face) {
        StringBuilder found = new StringBuilder();
        for (Constructor<?> constructor : face.getDeclaredConstructors()) {
            found.append(constructor);
        }
        return found.toString();
    }
}
