import java.io.IOException;
import java.lang.reflect.Constructor;
import java.lang.reflect.Field;
import java.lang.reflect.Method;
import java.lang.reflect.Modifier;
import java.nio.file.Files;
import java.nio.file.Path;
import java.util.ArrayList;
import java.util.Arrays;
import java.util.List;
import java.util.Set;
import java.util.TreeSet;

/** The public face, member by member, and those rules of LANGUAGE.md that can be seen from outside or in the text. */
public final class FaceTest {
    private static final String FACE = """
            int appendText(int) IllegalStateException
            int truncateText(int) IllegalArgumentException
            int runTrace()
            int errorCode()
            int errorPosition()
            int addClient(int) IllegalArgumentException IllegalStateException
            int setWeight(int,int) IndexOutOfBoundsException IllegalArgumentException
            int set(int,int) IllegalArgumentException
            int shape(int,int) IllegalArgumentException
            int count(int) IllegalArgumentException
            int client(int,int) IndexOutOfBoundsException IllegalArgumentException
            int block(int,int) IllegalArgumentException
            int at(int,int) IndexOutOfBoundsException
            int read(int,int) IndexOutOfBoundsException IllegalArgumentException
            int write(int,int,int) IndexOutOfBoundsException IllegalArgumentException
            int flush(int) IllegalArgumentException
            boolean forget(int) IllegalArgumentException
            double share(int) IndexOutOfBoundsException
            float hitShare()
            int order(int) IndexOutOfBoundsException
            int victim(boolean)
            int leaving()
            int oldest()
            int ages(int) IndexOutOfBoundsException
            int ownedAt(int,int,int) IndexOutOfBoundsException
            float excess(int) IndexOutOfBoundsException
            int toScan(int,int) IndexOutOfBoundsException IllegalArgumentException
            int rank(int) IllegalArgumentException
            int between(int,int,int) IndexOutOfBoundsException IllegalArgumentException
            int longest(int) IndexOutOfBoundsException
            int differing()
            int stale(int) IllegalArgumentException
            int wouldBe(int,int,int) IndexOutOfBoundsException IllegalArgumentException
            int ahead(int,int,int,int,int) IndexOutOfBoundsException IllegalArgumentException
            int bestLength(int,int,int,int) IndexOutOfBoundsException IllegalArgumentException
            int show(int) IndexOutOfBoundsException
            int output(int)
            int undo()
            void save(int) IllegalArgumentException
            void restore(int) IllegalArgumentException IllegalStateException
            """;

    private static int wrong = 0;

    public static void main(String[] args) throws IOException {
        due("NONE", GhostLayers.NONE, -1);
        due("the class is public and final", isPublicAndFinal(), true);
        due("constructors", constructors(), List.of("public GhostLayers()"));
        due("methods", publicMethods(), new TreeSet<>(Arrays.asList(FACE.strip().split("\n"))));
        due("members that are neither public nor private", strayMembers(), List.of());
        due("private methods with the name of a public one", twins(), List.of());
        due("classes inside that are public, protected or not static", strayClasses(), List.of());
        due("static fields that are not final", looseStatics(), List.of());
        due("classes are at most twelve", allClasses().size() <= 12, true);
        due("classes with more than twenty fields", wideClasses(), List.of());
        due("methods with more than seven parameters", wideMethods(), List.of());
        Path source = Path.of("src/main/java/GhostLayers.java");
        if (Files.exists(source)) {
            due("forbidden words in the source", forbidden(Files.readString(source)), List.of());
        } else {
            System.out.println("the source is not at " + source + ", so its words were not looked at");
        }
        System.out.println(wrong == 0 ? "the face is as due" : wrong + " answers are not as due");
        if (wrong != 0) {
            System.exit(1);
        }
    }

    private static void due(String what, Object got, Object want) {
        if (!got.equals(want)) {
            wrong++;
            System.out.println(what + ": " + got + ", due is " + want);
        }
    }

    private static boolean isPublicAndFinal() {
        int modifiers = GhostLayers.class.getModifiers();
        return Modifier.isPublic(modifiers) && Modifier.isFinal(modifiers);
    }

    private static List<String> constructors() {
        List<String> found = new ArrayList<>();
        for (Constructor<?> constructor : GhostLayers.class.getDeclaredConstructors()) {
            found.add(constructor.toString());
        }
        return found;
    }

    private static Set<String> publicMethods() {
        Set<String> found = new TreeSet<>();
        for (Method method : GhostLayers.class.getDeclaredMethods()) {
            if (!Modifier.isPublic(method.getModifiers())) {
                continue;
            }
            List<String> kinds = new ArrayList<>();
            for (Class<?> kind : method.getParameterTypes()) {
                kinds.add(kind.getSimpleName());
            }
            StringBuilder line = new StringBuilder();
            line.append(Modifier.isStatic(method.getModifiers()) ? "static " : "");
            line.append(method.getReturnType()).append(' ').append(method.getName());
            line.append('(').append(String.join(",", kinds)).append(')');
            for (Class<?> thrown : method.getExceptionTypes()) {
                line.append(' ').append(thrown.getSimpleName());
            }
            found.add(line.toString());
        }
        return found;
    }

    private static List<String> strayMembers() {
        List<String> found = new ArrayList<>();
        for (Field field : GhostLayers.class.getDeclaredFields()) {
            if (!Modifier.isPrivate(field.getModifiers()) && !field.getName().equals("NONE")) {
                found.add(field.getName());
            }
        }
        for (Method method : GhostLayers.class.getDeclaredMethods()) {
            if (!Modifier.isPrivate(method.getModifiers()) && !Modifier.isPublic(method.getModifiers())) {
                found.add(method.getName());
            }
        }
        return found;
    }

    private static List<Class<?>> allClasses() {
        List<Class<?>> classes = new ArrayList<>(Arrays.asList(GhostLayers.class.getDeclaredClasses()));
        classes.add(GhostLayers.class);
        return classes;
    }

    private static List<String> twins() {
        List<String> found = new ArrayList<>();
        for (Class<?> one : allClasses()) {
            for (Method method : one.getDeclaredMethods()) {
                boolean isFace = one == GhostLayers.class && Modifier.isPublic(method.getModifiers());
                if (!isFace && FACE.contains(" " + method.getName() + "(")) {
                    found.add(one.getSimpleName() + "." + method.getName());
                }
            }
        }
        return found;
    }

    private static List<String> strayClasses() {
        List<String> found = new ArrayList<>();
        for (Class<?> one : GhostLayers.class.getDeclaredClasses()) {
            int modifiers = one.getModifiers();
            if (Modifier.isPublic(modifiers) || Modifier.isProtected(modifiers) || !Modifier.isStatic(modifiers)) {
                found.add(one.getSimpleName());
            }
        }
        return found;
    }

    private static List<String> looseStatics() {
        List<String> found = new ArrayList<>();
        for (Class<?> one : allClasses()) {
            for (Field field : one.getDeclaredFields()) {
                if (Modifier.isStatic(field.getModifiers()) && !Modifier.isFinal(field.getModifiers())) {
                    found.add(field.getName());
                }
            }
        }
        return found;
    }

    private static List<String> wideClasses() {
        List<String> found = new ArrayList<>();
        for (Class<?> one : allClasses()) {
            int fields = 0;
            for (Field field : one.getDeclaredFields()) {
                fields += Modifier.isStatic(field.getModifiers()) ? 0 : 1;
            }
            if (fields > 20) {
                found.add(one.getSimpleName());
            }
        }
        return found;
    }

    private static List<String> wideMethods() {
        List<String> found = new ArrayList<>();
        for (Class<?> one : allClasses()) {
            for (Method method : one.getDeclaredMethods()) {
                if (method.getParameterCount() > 7) {
                    found.add(method.getName());
                }
            }
        }
        return found;
    }

    private static List<String> forbidden(String source) {
        List<String> found = new ArrayList<>();
        String[] words = {"->", "::", "finally", "synchronized", "assert ", "Exact(", "package ", "volatile",
            "ArrayIndexOutOfBounds", "NullPointer", "NegativeArraySize", "ClassCast", "ArrayStore", "Throwable",
            "System.out", "System.nano", "System.current", "Math.random", "hashCode", "toString(", "getMessage"};
        for (String word : words) {
            if (source.contains(word)) {
                found.add(word);
            }
        }
        for (char sign : source.toCharArray()) {
            if (sign > 126) {
                found.add(String.valueOf(sign));
            }
        }
        return found;
    }
}
