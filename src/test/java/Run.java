import java.lang.reflect.InvocationTargetException;
import java.lang.reflect.Method;
import java.util.Arrays;
import java.util.HashMap;
import java.util.Map;

/**
 * A run of calls on one new object, written as in the document's examples:
 * "startCall(5) = 0; isBorrowed(0) = 0". The model is asked the same, so that it is held to the
 * answers that are due as well.
 */
final class Run {
    private static final Map<String, Method> METHODS = methods();
    private static int wrong = 0;
    private static int asked = 0;

    private final String name;
    private final ChannelBorrower object = new ChannelBorrower();
    private final Model model = new Model();

    Run(String name) {
        this.name = name;
    }

    /** A run that has begun with 60 calls, four in each of the cells 0 to 14. */
    static Run withSixtyCalls(String name) {
        Run run = new Run(name).due("configure(5,5,2,4) = 12");
        for (int call = 0; call < 60; call++) {
            run.due("startCall(" + call / 4 + ") = " + call);
        }
        return run;
    }

    /** Makes the calls in order, and prints each one whose answer is not the one that is due. */
    Run due(String calls) {
        for (String call : calls.split(";")) {
            String[] sides = call.split("=");
            isDue(sides[0].trim(), Integer.parseInt(sides[1].trim()));
        }
        return this;
    }

    /** Makes the same calls several times. */
    Run due(int times, String calls) {
        for (int i = 0; i < times; i++) {
            due(calls);
        }
        return this;
    }

    /** Makes a call on this object and on another one; both have to answer the same. */
    void same(Run other, String call) {
        check(name + ": " + call, ask(call), other.ask(call));
    }

    /** Makes a call that no error code may answer. */
    Run taken(String call) {
        int got = ask(call);
        isTrue(name + ": " + call + " is taken, though it answered " + got, got >= 0 || got == ChannelBorrower.NONE);
        return this;
    }

    /** Appends a text to one that is empty. */
    Run type(String text) {
        for (int i = 0; i < text.length(); i++) {
            isDue("appendCharacter(" + (int) text.charAt(i) + ")", i + 1);
        }
        return this;
    }

    /** Runs a text as a script, and looks whether it is kept or not. */
    Run script(String text, int answer) {
        type(text);
        isDue("runScript()", answer, " behind \"" + text + "\"");
        isDue("clearText()", answer < 0 ? text.length() : 0, " behind \"" + text + "\"");
        return this;
    }

    private void isDue(String call, int want) {
        isDue(call, want, "");
    }

    private void isDue(String call, int want, String where) {
        check(name + ": " + call + where, ask(call), want);
    }

    private int ask(String call) {
        int[] numbers = argumentsOf(call);
        Object[] arguments = Arrays.stream(numbers).boxed().toArray();
        try {
            int got = (Integer) METHODS.get(methodOf(call)).invoke(object, arguments);
            check(name + ": " + call, got, model.call(methodOf(call), numbers), " by the model");
            return got;
        } catch (IllegalAccessException | InvocationTargetException e) {
            throw new IllegalStateException(name + ": " + call, e);
        }
    }

    private static String methodOf(String call) {
        return call.substring(0, call.indexOf('('));
    }

    private static int[] argumentsOf(String call) {
        String inside = call.substring(call.indexOf('(') + 1, call.length() - 1).trim();
        String[] parts = inside.isEmpty() ? new String[0] : inside.split(",");
        return Arrays.stream(parts).mapToInt(part -> Integer.parseInt(part.trim())).toArray();
    }

    static void check(String what, long got, long want) {
        check(what, got, want, "");
    }

    static void check(String what, long got, long want, String where) {
        asked++;
        if (got != want) {
            wrong++;
            System.out.println(what + " answered " + got + ", due is " + want + where);
        }
    }

    static void isTrue(String what, boolean answer) {
        asked++;
        if (!answer) {
            wrong++;
            System.out.println("not so: " + what);
        }
    }

    /** To be called at the end of a test's main method. */
    static void end() {
        System.out.println(asked + " answers asked for, " + wrong + " not as due");
        if (wrong != 0 || asked == 0) {
            System.exit(1);
        }
    }

    private static Map<String, Method> methods() {
        Map<String, Method> methods = new HashMap<>();
        for (Method method : ChannelBorrower.class.getMethods()) {
            if (method.getDeclaringClass() == ChannelBorrower.class) {
                methods.put(method.getName(), method);
            }
        }
        return methods;
    }
}
