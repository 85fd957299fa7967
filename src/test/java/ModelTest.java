import java.lang.reflect.Method;
import java.util.Arrays;
import java.util.Map;
import java.util.TreeMap;

/** Compares the class with the slow model on many runs of calls; the same runs each time. */
public final class ModelTest {
    private static final int RUNS = 1500;
    // The document promises no more calls on one object.
    private static final int CALLS = 512;

    private static final Map<String, Method> METHODS = new TreeMap<>();
    private static final String[] CHANGES = {"startCall", "startCall", "startCall", "startCall", "startCall",
        "endCall", "endCall", "handOver", "handOver", "handOver"};
    private static final String[] RARE_CHANGES = {"configure", "setStrategy", "setReserve", "setReturning",
        "undo", "undo", "save", "restore"};

    private long seed = 1;
    private Model model;
    private ChannelBorrower object;
    private String log;
    private int calls;

    public static void main(String[] args) throws ReflectiveOperationException {
        for (Method method : ChannelBorrower.class.getDeclaredMethods()) {
            if (java.lang.reflect.Modifier.isPublic(method.getModifiers())) {
                METHODS.put(method.getName(), method);
            }
        }
        ModelTest test = new ModelTest();
        for (int run = 1; run <= RUNS; run++) {
            test.run(run);
        }
        Run.end();
    }

    private void run(int run) throws ReflectiveOperationException {
        seed = run * 7919L;
        model = new Model();
        object = new ChannelBorrower();
        log = "";
        calls = 0;
        if (run % 4 != 0) {
            ask(run, "configure", below(5) + 1, below(5) + 1, below(2) + 2, below(4) + 1);
        }
        ask(run, "setStrategy", below(3));
        // Crowded cells make borrowing, locks and drops likely; some runs leave calls where they are.
        int crowd = 1 + below(25);
        int kind = below(3);
        while (calls < CALLS - 1) {
            step(run, crowd, kind);
        }
    }

    private void step(int run, int crowd, int kind) throws ReflectiveOperationException {
        int choice = below(100);
        if (choice < 45) {
            String name = CHANGES[below(kind == 0 ? 5 : CHANGES.length)];
            ask(run, name, arguments(name, crowd));
        } else if (choice < 52) {
            String name = RARE_CHANGES[below(RARE_CHANGES.length)];
            if (!name.equals("configure") || below(10) == 0) {
                ask(run, name, arguments(name, crowd));
            }
        } else if (choice < 54) {
            script(run, crowd);
        } else {
            String[] names = METHODS.keySet().toArray(new String[0]);
            String name = names[below(names.length)];
            if (Arrays.asList(CHANGES).indexOf(name) < 0 && Arrays.asList(RARE_CHANGES).indexOf(name) < 0) {
                ask(run, name, arguments(name, crowd));
            }
        }
    }

    private int[] arguments(String name, int crowd) {
        int[] arguments = new int[METHODS.get(name).getParameterCount()];
        for (int i = 0; i < arguments.length; i++) {
            arguments[i] = argument(name, i, crowd);
        }
        if (name.equals("handOver") && below(10) != 0) {
            arguments[1] = neighbourOf(arguments[0], arguments[1]);
        }
        return arguments;
    }

    private int argument(String name, int place, int crowd) {
        if (below(40) == 0) {
            int[] odd = {-1, -9, 25, 60, 255, 256, Integer.MAX_VALUE, Integer.MIN_VALUE, 1 << 16, 5, 3, 4, 0};
            return odd[below(odd.length)];
        }
        switch (name) {
            case "configure": return place < 2 ? 1 + below(5) : place == 2 ? 2 + below(2) : 1 + below(4);
            case "setStrategy": return below(3);
            case "setReserve": return below(3) == 0 ? below(4) : 0;
            case "setReturning": return below(2);
            case "save":
            case "restore": return below(2);
            case "appendCharacter": return "seh0123456789,; "
                    .charAt(below(16));
            case "endCall":
            case "handOver":
            case "cellOf":
            case "channelOf":
            case "isBorrowed":
            case "isInFixedScheme": return place == 0 ? below(model.call("callCount", new int[0]) + 2) : below(25);
            case "startCall": return below(crowd) % model.cells();
            default: return place == 0 || name.equals("distance") ? below(model.cells() + 1) : below(29);
        }
    }

    private int neighbourOf(int call, int otherwise) {
        int cell = model.call("cellOf", new int[] {call});
        int first = below(25);
        for (int i = 0; i < 25; i++) {
            int other = (first + i) % 25;
            if (model.call("distance", new int[] {cell, other}) == 1) {
                return other;
            }
        }
        return otherwise;
    }

    private void script(int run, int crowd) throws ReflectiveOperationException {
        StringBuilder text = new StringBuilder();
        int commands = below(8);
        for (int i = 0; i < commands; i++) {
            String name = CHANGES[below(CHANGES.length)];
            int[] a = arguments(name, crowd);
            text.append(spaces()).append(name.charAt(0)).append(spaces()).append(number(a[0])).append(spaces());
            if (a.length == 2) {
                text.append(',').append(spaces()).append(number(a[1])).append(spaces());
            }
            text.append(';').append(spaces());
        }
        if (below(3) == 0 && text.length() > 0) {
            text.setCharAt(below(text.length()), "seh0123456789,; x".charAt(below(17)));
        }
        if (below(6) == 0) {
            text.setLength(below(text.length() + 1));
        }
        ask(run, "clearText");
        for (int i = 0; i < text.length() && calls < CALLS - 2; i++) {
            ask(run, "appendCharacter", text.charAt(i));
        }
        ask(run, "runScript");
    }

    private String number(int value) {
        return value < 0 ? "0" : value > 99 ? "99" : Integer.toString(value);
    }

    private String spaces() {
        return below(8) == 0 ? "  ".substring(below(2)) : "";
    }

    private void ask(int run, String name, int... arguments) throws ReflectiveOperationException {
        if (calls >= CALLS) {
            return;
        }
        calls++;
        Object[] boxed = Arrays.stream(arguments).boxed().toArray();
        int got = (Integer) METHODS.get(name).invoke(object, boxed);
        int want = model.call(name, arguments);
        String call = name + Arrays.toString(arguments);
        log += "\n    " + call + " = " + want;
        Run.check("run " + run + ": " + call, got, want, got == want ? "" : " behind" + log);
        if (got != want) {
            // What follows a wrong answer says nothing more.
            calls = CALLS;
        }
    }

    private int below(int bound) {
        seed = seed * 6364136223846793005L + 1442695040888963407L;
        return (int) ((seed >>> 33) % bound);
    }
}
