import java.lang.reflect.InvocationTargetException;
import java.lang.reflect.Method;
import java.util.HashMap;
import java.util.Map;

/**
 * A run of calls on one new object, written as in the document's examples:
 * "startCall(5) = 0; isBorrowed(0) = 0".
 */
final class Run {
    private static final Map<String, Method> METHODS = methods();
    private static int wrong = 0;
    private static int asked = 0;

    private final String name;
    private final ChannelBorrower object = new ChannelBorrower();

    Run(String name) {
        this.name = name;
    }

    /** Makes the calls in order, and prints each one whose answer is not the one that is due. */
    Run due(String calls) {
        for (String call : calls.split(";")) {
            String[] sides = call.split("=");
            check(sides[0].trim(), call(sides[0].trim()), Long.parseLong(sides[1].trim()));
        }
        return this;
    }

    /** Makes the same calls several times. */
    Run due(int times, String calls) {
        for (int i = 0; i < times; i++) {
            due(calls);
        }
        return this;
    }

    /** Appends a text to one that is empty. */
    Run type(String text) {
        for (int i = 0; i < text.length(); i++) {
            int character = text.charAt(i);
            check("appendCharacter(" + character + ")", object.appendCharacter(character), i + 1);
        }
        return this;
    }

    /** Runs a text as a script, and looks whether it is kept or not. */
    Run script(String text, int answer) {
        type(text);
        check("runScript() of \"" + text + "\"", object.runScript(), answer);
        check("clearText() behind \"" + text + "\"", object.clearText(), answer < 0 ? text.length() : 0);
        return this;
    }

    private long call(String call) {
        int open = call.indexOf('(');
        String inside = call.substring(open + 1, call.length() - 1).trim();
        String[] parts = inside.isEmpty() ? new String[0] : inside.split(",");
        Object[] arguments = new Object[parts.length];
        for (int i = 0; i < parts.length; i++) {
            arguments[i] = Integer.valueOf(parts[i].trim());
        }
        try {
            return (Integer) METHODS.get(call.substring(0, open)).invoke(object, arguments);
        } catch (IllegalAccessException | InvocationTargetException e) {
            throw new IllegalStateException(name + ": " + call, e);
        }
    }

    private void check(String call, long got, long want) {
        check(name + ": " + call, got, want, "");
    }

    static void check(String what, long got, long want, String where) {
        asked++;
        if (got != want) {
            wrong++;
            System.out.println(what + " answered " + got + ", due is " + want + where);
        }
    }

    /** To be called at the end of a test's main method. */
    static void end() {
        System.out.println(asked + " answers asked for, " + wrong + " not as due");
        if (wrong != 0 || asked == 0) {
            System.exit(1);
        }
    }

    private static Map<String, Method> methods() {
        Map<String, Method> methods = new HashMap<>();
        for (Method method : ChannelBorrower.class.getMethods()) {
            if (method.getDeclaringClass() == ChannelBorrower.class) {
                methods.put(method.getName(), method);
            }
        }
        return methods;
    }
}
