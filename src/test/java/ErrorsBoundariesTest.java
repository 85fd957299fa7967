/**
 * The section "Errors" of the document: what changes nothing, which code is returned, and when NONE
 * is. A refused call is made on one of two objects that are alike; then both have to answer the same.
 */
public final class ErrorsBoundariesTest {
    // No count is 0, all six states are saved, slot 1 is empty, and call 3 could return if returning were on.
    private static final String ALIKE = "configure(1,3,2,1) = 3; startCall(0) = 0; startCall(0) = 1; startCall(1) = 2;"
            + "startCall(2) = 3; endCall(0) = 0; handOver(3,1) = -9; startCall(0) = 0; handOver(2,0) = -9;"
            + "startCall(1) = 2; startCall(1) = 3; save(0) = 4; setReturning(0) = 0; endCall(2) = 2;"
            + "setStrategy(2) = 0; setReserve(3) = 0";
    private static final String[] COUNTS = {"cellCount()", "channelCount()", "blockingCells()", "callCount()",
        "attempts()", "blocked()", "blockedInFixedScheme()", "dropped()", "droppedInFixedScheme()", "borrowings()",
        "returns()"};
    private static final String[] OF_CALLS = {"cellOf", "channelOf", "isBorrowed", "isInFixedScheme"};
    private static final String[] OF_CELLS = {"groupOf", "availableCount", "usedCount", "lockedCount", "nextChannel",
        "nextDonor"};
    private static final String[] OF_CHANNELS = {"isAvailable", "lockCount", "burden"};

    public static void main(String[] args) {
        alikeIsNotEmpty();
        refusedCalls();
        refusedInOtherStates();
        asking();
        severalCodes();
        noneIsNoError();
        Run.end();
    }

    private static Run alike(String name) {
        return new Run(name).due(ALIKE).type("s1");
    }

    private static void alikeIsNotEmpty() {
        alike("The objects that are compared").due("attempts() = 7; blocked() = 2; blockedInFixedScheme() = 2;"
                + "dropped() = 1; droppedInFixedScheme() = 2; borrowings() = 3; returns() = 2; callCount() = 3;"
                + "isBorrowed(3) = 1; availableCount(1) = 1; undo() = 5");
    }

    private static void refusedCalls() {
        String[] invalid = {"configure(0,3,2,1)", "configure(6,3,2,1)", "configure(1,0,2,1)", "configure(1,6,2,1)",
            "configure(1,3,1,1)", "configure(1,3,4,1)", "configure(1,3,2,0)", "configure(1,3,2,5)", "setStrategy(-1)",
            "setStrategy(3)", "setReserve(-1)", "setReserve(4)", "setReturning(-1)", "setReturning(2)", "groupOf(3)",
            "distance(0,3)", "distance(3,0)", "startCall(-1)", "startCall(3)", "handOver(3,-1)", "handOver(3,3)",
            "handOver(3,1)", "handOver(1,2)", "isAvailable(3,0)", "isAvailable(0,3)", "lockCount(3,0)", "lockCount(0,3)",
            "burden(3,0)", "burden(0,3)", "availableCount(3)", "usedCount(3)", "lockedCount(3)", "nextChannel(3)",
            "nextDonor(3)", "appendCharacter(-1)", "appendCharacter(256)", "save(-1)", "save(2)", "restore(-1)",
            "restore(2)"};
        for (String call : invalid) {
            changesNothing(call, ChannelBorrower.INVALID_ARGUMENT);
        }
        String[] noCall = {"endCall(-1)", "endCall(2)", "endCall(60)", "handOver(-1,1)", "handOver(2,1)", "handOver(60,1)",
            "cellOf(2)", "channelOf(2)", "isBorrowed(2)", "isInFixedScheme(2)"};
        for (String call : noCall) {
            changesNothing(call, ChannelBorrower.NO_SUCH_CALL);
        }
        changesNothing("restore(1)", ChannelBorrower.ILLEGAL_STATE);
        changesNothing("runScript()", -12);
    }

    private static void changesNothing(String call, int code) {
        String sentence = "A method that returns an error code changes nothing: behind " + call;
        Run refused = alike(sentence);
        refused.due(call + " = " + code);
        sameAnswers(refused, alike(sentence));
    }

    private static void refusedInOtherStates() {
        String full = "A method that returns an error code changes nothing: 60 calls";
        Run refused = Run.withSixtyCalls(full).due("startCall(20) = -3");
        Run other = Run.withSixtyCalls(full);
        for (String probe : new String[] {"attempts()", "blocked()", "blockedInFixedScheme()", "callCount()",
            "usedCount(20)", "nextChannel(20)", "endCall(0)", "startCall(20)", "isInFixedScheme(0)", "undo()", "undo()"}) {
            refused.same(other, probe);
        }
        new Run("A method that returns an error code changes nothing: 100 characters").type("s5;".repeat(33) + " ")
                .due("appendCharacter(120) = -3; runScript() = 33; clearText() = 0");
        new Run("A method that returns an error code changes nothing: nothing is saved").due("save(0) = 0;"
                + "startCall(5) = 0; save(1) = 1; restore(1) = 1").type("s").due("undo() = -2; cellOf(0) = 5;"
                + "attempts() = 1; clearText() = 1; restore(0) = 0");
    }

    private static void asking() {
        Run asked = alike("What only asks changes nothing");
        Run other = alike("What only asks changes nothing");
        // Each kind of question once on one of the two; sameAnswers() then asks both of them all.
        for (String[] names : new String[][] {OF_CALLS, OF_CELLS}) {
            for (String name : names) {
                asked.taken(name + "(1)");
            }
        }
        for (String name : OF_CHANNELS) {
            asked.taken(name + "(1,1)");
        }
        for (String count : COUNTS) {
            asked.taken(count);
        }
        asked.taken("distance(0,2)");
        sameAnswers(asked, other);
    }

    private static void sameAnswers(Run one, Run other) {
        for (String count : COUNTS) {
            one.same(other, count);
        }
        for (int number = 0; number < 5; number++) {
            for (String name : OF_CALLS) {
                one.same(other, name + "(" + number + ")");
            }
        }
        for (int cell = 0; cell < 4; cell++) {
            for (String name : OF_CELLS) {
                one.same(other, name + "(" + cell + ")");
            }
        }
        for (String name : OF_CHANNELS) {
            for (int channel = 0; channel < 4; channel++) {
                one.same(other, name + "(0," + channel + ")");
                one.same(other, name + "(1," + channel + ")");
            }
        }
        sameChanges(one, other);
    }

    /** The text, the settings, the saved states and the snapshots show in what changes them. */
    private static void sameChanges(Run one, Run other) {
        String[] changes = {"appendCharacter(59)", "runScript()", "clearText()", "cellOf(2)", "undo()", "callCount()",
            "setReturning(1)", "setStrategy(0)", "setReserve(0)", "nextChannel(1)", "startCall(1)", "undo()", "undo()",
            "undo()", "undo()", "attempts()", "undo()", "attempts()", "undo()", "attempts()", "undo()", "attempts()",
            "undo()", "restore(0)", "attempts()", "callCount()", "channelOf(3)", "restore(1)", "undo()", "attempts()"};
        for (String change : changes) {
            one.same(other, change);
        }
    }

    private static void severalCodes() {
        String sentence = "If several error codes apply, the one that is named first: ";
        Run.withSixtyCalls(sentence + "startCall(), no such cell and 60 calls").due("startCall(25) = -1;"
                + "startCall(-1) = -1; startCall(24) = -3");
        new Run(sentence + "handOver(), no such call and no such cell").due("handOver(0,12) = -4; handOver(-1,-1) = -4;"
                + "startCall(0) = 0; handOver(1,12) = -4; handOver(0,12) = -1");
        new Run(sentence + "handOver(), no such call and no neighbour").due("startCall(0) = 0; handOver(1,0) = -4;"
                + "handOver(1,11) = -4");
        new Run(sentence + "appendCharacter(), out of range and 100 characters").type("s".repeat(100))
                .due("appendCharacter(256) = -1; appendCharacter(-1) = -1; appendCharacter(255) = -3");
        new Run(sentence + "restore(), out of range, and nothing is saved").due("restore(2) = -1; restore(-1) = -1;"
                + "restore(0) = -2");
        new Run(sentence + "isAvailable(), lockCount() and burden(), no such cell and no such channel").due(
                "isAvailable(12,6) = -1; lockCount(12,6) = -1; burden(12,6) = -1");
    }

    private static void noneIsNoError() {
        String sentence = "NONE is returned only if no error code applies: ";
        // Cell 0 and all that it could borrow from are full, in both of the networks.
        Run.withSixtyCalls(sentence + "startCall() with 60 calls, where both would block").due(
                "nextChannel(0) = -9; startCall(0) = -3; attempts() = 60; blocked() = 0");
        new Run(sentence + "startCall()").due("configure(1,1,2,1) = 3; startCall(0) = 0; startCall(0) = -9;"
                + "startCall(1) = -1; startCall(-9) = -1");
        new Run(sentence + "endCall()").due("configure(1,2,2,1) = 3; startCall(0) = 0; startCall(0) = 1;"
                + "startCall(1) = 2; endCall(2) = -9; endCall(2) = -4");
        new Run(sentence + "handOver()").due("configure(1,2,2,1) = 3; startCall(0) = 0; startCall(0) = 1;"
                + "startCall(1) = 2; handOver(2,1) = -1; handOver(2,2) = -1; handOver(2,0) = -9; handOver(2,1) = -4");
        new Run(sentence + "channelOf()").due("configure(1,2,2,1) = 3; startCall(0) = 0; startCall(0) = 1;"
                + "startCall(1) = 2; channelOf(2) = -9; channelOf(3) = -4; endCall(2) = -9; channelOf(2) = -4");
        new Run(sentence + "nextChannel() and nextDonor()").due("configure(1,1,2,1) = 3; startCall(0) = 0;"
                + "nextChannel(0) = -9; nextDonor(0) = -9; nextChannel(1) = -1; nextDonor(1) = -1; nextChannel(-1) = -1;"
                + "nextDonor(-9) = -1");
    }
}
