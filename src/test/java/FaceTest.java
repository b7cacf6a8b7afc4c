import java.io.IOException;
import java.lang.reflect.Constructor;
import java.lang.reflect.Field;
import java.lang.reflect.Method;
import java.lang.reflect.Modifier;
import java.nio.file.Files;
import java.nio.file.Path;
import java.util.Arrays;
import java.util.List;
import java.util.Set;
import java.util.TreeSet;
import java.util.stream.Collectors;

/** The document's face, and those rules of LANGUAGE.md that can be seen in the class or its text. */
public final class FaceTest {
    private static final List<String> FACE = List.of(
            "void edit 4 NoSuchElementException IllegalArgumentException UnsupportedOperationException",
            "void erase 2 NoSuchElementException UnsupportedOperationException",
            "int siblings 2 NoSuchElementException",
            "int counter 4 NoSuchElementException IndexOutOfBoundsException",
            "int byteOf 4 NoSuchElementException IndexOutOfBoundsException",
            "int visit 3 NoSuchElementException",
            "int cut 4 NoSuchElementException IllegalArgumentException",
            "int lose 1 NoSuchElementException",
            "void copy 2 NoSuchElementException",
            "int known 4 NoSuchElementException IndexOutOfBoundsException",
            "int marks 1 NoSuchElementException",
            "int bytes 1 NoSuchElementException",
            "boolean same 2 NoSuchElementException",
            "int room 1 NoSuchElementException",
            "int item 3 NoSuchElementException IndexOutOfBoundsException",
            "int leftOut 0");
    private static final List<String> IMPORTS = List.of("import java.util.ArrayList;", "import java.util.Arrays;",
            "import java.util.NoSuchElementException;");
    private static final List<String> RULED_OUT = List.of("->", "::", "try ", "finally", "synchronized", "assert ",
            "package ", "System.out", "equals(", "hashCode", "toString", "Exact(", "static {",
            "MAX_VALUE", "MIN_VALUE");

    private final Check check = new Check("FaceTest");

    public static void main(String[] args) throws IOException {
        FaceTest test = new FaceTest();
        test.classIsPublicAndFinal();
        test.methodsAreTheFace();
        test.restIsPrivate();
        test.classesInside();
        test.text();
        test.check.end();
    }

    private void classIsPublicAndFinal() {
        int modifiers = FolderRounds.class.getModifiers();
        check.due("public and final", Modifier.isPublic(modifiers) && Modifier.isFinal(modifiers), true);
        Constructor<?>[] constructors = FolderRounds.class.getDeclaredConstructors();
        check.due("constructors", constructors.length, 1);
        check.due("public constructor", Modifier.isPublic(constructors[0].getModifiers()), true);
        check.due("parameters of the constructor", constructors[0].getParameterCount(), 0);
    }

    private static String signature(Method method) {
        String text = method.getReturnType() + " " + method.getName() + " " + method.getParameterCount();
        for (Class<?> thrown : method.getExceptionTypes()) {
            text += " " + thrown.getSimpleName();
        }
        return text;
    }

    private void methodsAreTheFace() {
        Set<String> found = new TreeSet<>();
        for (Method method : FolderRounds.class.getDeclaredMethods()) {
            if (!Modifier.isPrivate(method.getModifiers())) {
                found.add(signature(method));
                check.due(method.getName() + " is public and not static", method.getModifiers(), Modifier.PUBLIC);
                check.due(method.getName() + " takes ints alone",
                        Arrays.stream(method.getParameterTypes()).allMatch(t -> t == int.class), true);
            }
        }
        check.due("face", found, new TreeSet<>(FACE));
    }

    private void restIsPrivate() {
        Set<String> names = FACE.stream().map(line -> line.split(" ")[1]).collect(Collectors.toSet());
        for (Method method : FolderRounds.class.getDeclaredMethods()) {
            if (Modifier.isPrivate(method.getModifiers())) {
                check.due(method.getName() + " bears a public name", names.contains(method.getName()), false);
                check.due(method.getName() + " has too many parameters", method.getParameterCount() > 7, false);
            }
        }
        for (Field field : FolderRounds.class.getDeclaredFields()) {
            check.due(field.getName() + " is private", Modifier.isPrivate(field.getModifiers()), true);
            boolean free = Modifier.isStatic(field.getModifiers()) && !Modifier.isFinal(field.getModifiers());
            check.due(field.getName() + " is static and not final", free, false);
        }
    }

    private void classesInside() {
        Class<?>[] inside = FolderRounds.class.getDeclaredClasses();
        check.due("too many classes", inside.length > 11, false);
        for (Class<?> one : inside) {
            check.due(one.getName() + " is static", Modifier.isStatic(one.getModifiers()), true);
            boolean seen = Modifier.isPublic(one.getModifiers()) || Modifier.isProtected(one.getModifiers());
            check.due(one.getName() + " is public or protected", seen, false);
        }
    }

    private void text() throws IOException {
        List<String> lines = Files.readAllLines(Path.of("src/main/java/FolderRounds.java"));
        for (String line : lines) {
            check.due("a sign that is not ASCII in: " + line, line.chars().allMatch(c -> c < 128), true);
            if (line.startsWith("import")) {
                check.due(line, IMPORTS.contains(line), true);
            }
            for (String word : RULED_OUT) {
                check.due("'" + word + "' stands in: " + line, line.contains(word), false);
            }
        }
    }
}
