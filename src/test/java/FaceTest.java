import java.io.IOException;
import java.lang.reflect.Constructor;
import java.lang.reflect.Field;
import java.lang.reflect.Method;
import java.lang.reflect.Modifier;
import java.nio.file.Files;
import java.nio.file.Path;
import java.util.Set;
import java.util.TreeSet;
import java.util.regex.Matcher;
import java.util.regex.Pattern;

/** The public face, the constants, and the rules of LANGUAGE.md that can be seen from outside. */
public final class FaceTest {
    private static final Path SOURCE = Path.of("src/main/java/ChannelBorrower.java");
    private static final String[] METHODS = {"configure 4", "setStrategy 1", "setReserve 1", "setReturning 1",
        "cellCount 0", "channelCount 0", "groupOf 1", "distance 2", "startCall 1", "endCall 1", "handOver 2",
        "cellOf 1", "channelOf 1", "isBorrowed 1", "isInFixedScheme 1", "isAvailable 2", "lockCount 2", "burden 2",
        "availableCount 1", "usedCount 1", "lockedCount 1", "nextChannel 1", "nextDonor 1", "blockingCells 0",
        "callCount 0", "attempts 0", "blocked 0", "blockedInFixedScheme 0", "dropped 0", "droppedInFixedScheme 0",
        "borrowings 0", "returns 0", "appendCharacter 1", "clearText 0", "runScript 0", "undo 0", "save 1",
        "restore 1"};

    public static void main(String[] args) throws IOException {
        constants();
        publicMethods();
        nothingElseIsVisible(ChannelBorrower.class);
        namesInside();
        forbiddenWords(withoutComments(Files.readString(SOURCE)));
        Run.end();
    }

    private static void constants() {
        Run.check("INVALID_ARGUMENT", ChannelBorrower.INVALID_ARGUMENT, -1);
        Run.check("ILLEGAL_STATE", ChannelBorrower.ILLEGAL_STATE, -2);
        Run.check("CAPACITY_EXCEEDED", ChannelBorrower.CAPACITY_EXCEEDED, -3);
        Run.check("NO_SUCH_CALL", ChannelBorrower.NO_SUCH_CALL, -4);
        Run.check("NONE", ChannelBorrower.NONE, -9);
    }

    private static void publicMethods() {
        Set<String> found = new TreeSet<>();
        for (Method method : ChannelBorrower.class.getDeclaredMethods()) {
            if (Modifier.isPublic(method.getModifiers())) {
                boolean plain = method.getReturnType() == int.class && !Modifier.isStatic(method.getModifiers());
                found.add(method.getName() + " " + (plain ? method.getParameterCount() : -1));
            }
        }
        Run.isTrue("the public methods are those of the document: " + found, found.equals(Set.of(METHODS)));
    }

    private static void nothingElseIsVisible(Class<?> face) {
        Run.isTrue("the class is public and final", Modifier.isPublic(face.getModifiers())
                && Modifier.isFinal(face.getModifiers()));
        for (Field field : face.getDeclaredFields()) {
            boolean constant = Set.of("INVALID_ARGUMENT", "ILLEGAL_STATE", "CAPACITY_EXCEEDED", "NO_SUCH_CALL", "NONE")
                    .contains(field.getName());
            Run.isTrue("private: " + field, constant || Modifier.isPrivate(field.getModifiers()));
        }
        for (Method method : face.getDeclaredMethods()) {
            int modifiers = method.getModifiers();
            Run.isTrue("public or private: " + method, Modifier.isPublic(modifiers) || Modifier.isPrivate(modifiers));
        }
        for (Constructor<?> constructor : face.getDeclaredConstructors()) {
            Run.isTrue("without parameters: " + constructor, constructor.getParameterCount() == 0);
        }
    }

    private static void namesInside() {
        Set<String> names = new TreeSet<>();
        for (String method : METHODS) {
            names.add(method.split(" ")[0]);
        }
        for (Method method : ChannelBorrower.class.getDeclaredMethods()) {
            Run.isTrue("a name of the face: " + method,
                    Modifier.isPublic(method.getModifiers()) || !names.contains(method.getName()));
        }
        for (Class<?> inside : ChannelBorrower.class.getDeclaredClasses()) {
            Run.isTrue("static, not public: " + inside, Modifier.isStatic(inside.getModifiers())
                    && !Modifier.isPublic(inside.getModifiers()));
            Run.isTrue("some twenty fields: " + inside, inside.getDeclaredFields().length <= 20);
            for (Method method : inside.getDeclaredMethods()) {
                Run.isTrue("a name of the face: " + method, !names.contains(method.getName()));
            }
        }
    }

    private static void forbiddenWords(String source) {
        String words = "throw|throws|try|catch|finally|synchronized|assert|yield|volatile|transient|native|package"
                + "|Object|Thread|Random|System\\.(?!arraycopy)\\w+|equals|hashCode|toString|instanceof|Stream";
        Matcher matcher = Pattern.compile("\\b(" + words + ")\\b|->|::|@").matcher(source);
        Run.isTrue("a forbidden word: " + (matcher.find() ? matcher.group() : ""), matcher.reset().results().count() == 0);
        Run.isTrue("imports java.util.Arrays alone", source.replace("import java.util.Arrays;", "").indexOf("import") < 0);
        Run.isTrue("signs 1 to 127 alone", source.chars().allMatch(sign -> sign >= 1 && sign <= 127));
    }

    private static String withoutComments(String source) {
        return source.replaceAll("(?s)/\\*.*?\\*/", "").replaceAll("//[^\n]*", "");
    }
}
