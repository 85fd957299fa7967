/**
 * The range of each argument of the promises 2 to 24: the least and the greatest value that are
 * taken, those beside them, the ends of int, and values that a byte or a short would wrap around.
 */
public final class ArgumentsBoundariesTest {
    private static final int[][] NETWORKS = {{1, 1, 2, 1}, {3, 4, 2, 2}, {1, 5, 3, 1}, {5, 1, 2, 3}, {5, 5, 3, 4}};
    private static final String[] CELL_METHODS = {"8: groupOf", "20: availableCount", "21: usedCount",
        "22: lockedCount", "23: nextChannel", "24: nextDonor"};
    private static final String[] CHANNEL_METHODS = {"17: isAvailable", "18: lockCount", "19: burden"};
    private static final String[] CALL_METHODS = {"11: endCall", "13: cellOf", "14: channelOf", "15: isBorrowed",
        "16: isInFixedScheme"};

    public static void main(String[] args) {
        settings();
        for (int[] network : NETWORKS) {
            String configure = "configure(" + network[0] + "," + network[1] + "," + network[2] + "," + network[3] + ")";
            int cells = network[0] * network[1];
            int channels = (network[2] == 2 ? 3 : 7) * network[3];
            cells(configure, cells);
            distance(configure, cells);
            startCall(configure, cells);
            handOver(configure, cells);
            cellsAndChannels(configure, cells, channels);
            calls(configure, cells);
        }
        callsThatAreNotThere();
        anotherNetwork();
        Run.end();
    }

    private static void settings() {
        range("2: rows, 1 to 5", "", "configure(", ",4,2,2)", 1, 5);
        range("2: columns, 1 to 5", "", "configure(3,", ",2,2)", 1, 5);
        range("2: reuseDistance, 2 or 3", "", "configure(3,4,", ",2)", 2, 3);
        range("2: groupSize, 1 to 4", "", "configure(3,4,2,", ")", 1, 4);
        range("3: strategy, 0 to 2", "", "setStrategy(", ")", 0, 2);
        range("4: reserve, 0 to 3", "", "setReserve(", ")", 0, 3);
        range("5: on, 1 or 0", "", "setReturning(", ")", 0, 1);
        new Run("2: INVALID_ARGUMENT if an argument is out of range: all of them").due("configure(0,0,1,0) = -1;"
                + "configure(6,6,4,5) = -1; configure(2147483647,2147483647,2147483647,2147483647) = -1;"
                + "configure(-2147483648,-2147483648,-2147483648,-2147483648) = -1; cellCount() = 12");
        // The product of 65536 rows and 65536 columns wraps around to 0, and that of -3 and -4 is 12.
        new Run("2: INVALID_ARGUMENT if an argument is out of range: a product that looks right").due(
                "configure(65536,65536,2,2) = -1; configure(-3,-4,2,2) = -1; configure(12,1,2,2) = -1;"
                + "configure(3,4,2,-2) = -1; cellCount() = 12; undo() = -2");
    }

    /** The argument stands between the two parts of the call; what is beside the range is refused with -1. */
    private static void range(String sentence, String before, String head, String tail, int least, int greatest) {
        for (int value = least; value <= greatest; value++) {
            start(sentence + ": " + value + " is in the range", before).taken(head + value + tail);
        }
        int[] wrong = {least - 1, Integer.MIN_VALUE, greatest + 1, Integer.MAX_VALUE, least + 256, least - 256,
            least + 65536, -9};
        for (int value : wrong) {
            start(sentence + (value < least ? ": too small" : ": too large"), before).due(head + value + tail + " = -1");
        }
    }

    private static Run start(String sentence, String before) {
        Run run = new Run(sentence);
        if (!before.isEmpty()) {
            run.taken(before);
        }
        return run;
    }

    private static void cells(String network, int cells) {
        for (String method : CELL_METHODS) {
            range(method + ", cell behind " + network, network, nameOf(method) + "(", ")", 0, cells - 1);
        }
    }

    private static void distance(String network, int cells) {
        range("9: distance, a behind " + network, network, "distance(", ",0)", 0, cells - 1);
        range("9: distance, b behind " + network, network, "distance(0,", ")", 0, cells - 1);
        new Run("9: distance, both").taken(network).due("distance(" + cells + "," + cells + ") = -1; distance(-1,-1) = -1;"
                + "distance(-1," + cells + ") = -1");
    }

    private static void startCall(String network, int cells) {
        range("10: startCall, cell behind " + network, network, "startCall(", ")", 0, cells - 1);
        new Run("10: startCall, no such cell: it is no attempt").taken(network).due("startCall(" + cells + ") = -1;"
                + "startCall(-1) = -1; attempts() = 0; blocked() = 0; blockedInFixedScheme() = 0; callCount() = 0");
    }

    private static void handOver(String network, int cells) {
        for (int cell : new int[] {-1, cells, 256, Integer.MAX_VALUE, Integer.MIN_VALUE, -9}) {
            new Run("12: handOver, no such cell behind " + network).taken(network).due("startCall(" + (cells - 1)
                    + ") = 0; handOver(0," + cell + ") = -1; cellOf(0) = " + (cells - 1));
        }
    }

    private static void cellsAndChannels(String network, int cells, int channels) {
        for (String method : CHANNEL_METHODS) {
            String head = nameOf(method) + "(";
            range(method + ", cell behind " + network, network, head, ",0)", 0, cells - 1);
            range(method + ", channel behind " + network, network, head + (cells - 1) + ",", ")", 0, channels - 1);
            new Run(method + ", both out of range").taken(network).due(head + cells + "," + channels + ") = -1;"
                    + head + "-1,-1) = -1");
        }
    }

    private static void calls(String network, int cells) {
        for (int call : new int[] {-1, 1, 59, 60, 256, 65536, Integer.MAX_VALUE, Integer.MIN_VALUE, -9}) {
            for (String method : CALL_METHODS) {
                new Run(method + ", no such call: " + call).taken(network).due("startCall(" + (cells - 1) + ") = 0;"
                        + nameOf(method) + "(" + call + ") = -4; callCount() = 1");
            }
            new Run("12: handOver, no such call: " + call).taken(network).due("startCall(" + (cells - 1) + ") = 0;"
                    + "handOver(" + call + ",0) = -4; callCount() = 1");
        }
    }

    private static void callsThatAreNotThere() {
        for (String method : CALL_METHODS) {
            String name = nameOf(method);
            new Run(method + ", no such call: no call at all").due(name + "(0) = -4");
            new Run(method + ", no such call: it has ended").due("startCall(5) = 0; startCall(5) = 1; endCall(0) = 0;"
                    + name + "(0) = -4").taken(name + "(1)");
            new Run(method + ", no such call: its start was undone").due("startCall(5) = 0; undo() = 0;"
                    + name + "(0) = -4");
            new Run(method + ", no such call: there is a new network").due("startCall(5) = 0; configure(3,4,2,2) = 6;"
                    + name + "(0) = -4");
            Run.withSixtyCalls(method + ", the last of 60 calls").due(name + "(60) = -4").taken(name + "(59)");
        }
        new Run("12: handOver, no such call: no call at all").due("handOver(0,1) = -4");
        new Run("12: handOver, no such call: it has ended").due("startCall(5) = 0; endCall(0) = 0; handOver(0,6) = -4");
    }

    private static void anotherNetwork() {
        new Run("No such cell or channel: in a smaller network").due("groupOf(11) = 2; isAvailable(0,5) = 1;"
                + "configure(2,2,2,1) = 3; groupOf(3) = 0; groupOf(4) = -1; groupOf(11) = -1; isAvailable(0,2) = 1;"
                + "isAvailable(0,3) = -1; startCall(4) = -1; distance(3,4) = -1");
        new Run("No such cell or channel: in a larger network").due("groupOf(24) = -1; isAvailable(0,27) = -1;"
                + "configure(5,5,3,4) = 28; groupOf(24) = 2; isAvailable(24,27) = 1; startCall(24) = 0;"
                + "undo() = 1; undo() = 0; groupOf(24) = -1; isAvailable(0,27) = -1; groupOf(11) = 2");
        new Run("No such cell or channel: in the network of a snapshot").due("save(0) = 0; configure(5,5,3,4) = 28;"
                + "groupOf(24) = 2; restore(0) = 0; groupOf(24) = -1; groupOf(11) = 2; isAvailable(0,6) = -1");
    }

    private static String nameOf(String method) {
        return method.substring(method.indexOf(' ') + 1);
    }
}
