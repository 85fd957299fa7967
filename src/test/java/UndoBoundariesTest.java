/**
 * The boundaries that the section "Undo and snapshots" of the document and the promises 37 to 39
 * name. Each run has the sentence for its name.
 */
public final class UndoBoundariesTest {
    private static final String SIX_SAVED = "startCall(0) = 0; startCall(1) = 1; startCall(2) = 2; startCall(3) = 3;"
            + "startCall(4) = 4; startCall(5) = 5;";
    private static final String COUNTS_THAT_DIFFER = "configure(1,3,2,1) = 3; startCall(0) = 0; startCall(0) = 1;"
            + "startCall(1) = 2; startCall(2) = 3; startCall(1) = -9; startCall(0) = -9; handOver(0,1) = -9;"
            + "startCall(1) = 0; handOver(2,0) = -9; startCall(1) = 4; startCall(0) = -9; startCall(0) = -9;";
    private static final String ALL_SIX_UNDONE = "undo() = 5; undo() = 4; undo() = 3; undo() = 2; undo() = 1; undo() = 0;";

    public static void main(String[] args) {
        state();
        successfulCalls();
        otherCalls();
        mostRecent();
        sixStates();
        aroundTheSix();
        nothingSaved();
        slots();
        emptySlots();
        copies();
        restoreDiscards();
        Run.end();
    }

    private static void state() {
        new Run("The state is everything: rows, columns, reuse distance and channels").due("configure(5,1,3,4) = 28;"
                + "undo() = 0; cellCount() = 12; channelCount() = 6; distance(0,4) = 1; groupOf(1) = 2;"
                + "availableCount(11) = 2; groupOf(11) = 2");
        new Run("The state is everything: strategy").due("setStrategy(2) = 0; undo() = 0; setStrategy(1) = 0");
        new Run("The state is everything: reserve").due("setReserve(2) = 0; undo() = 0; setReserve(1) = 0");
        new Run("The state is everything: returning").due("setReturning(0) = 0; undo() = 0; startCall(5) = 0;"
                + "startCall(5) = 1; startCall(5) = 2; endCall(0) = 0; returns() = 1");
        new Run("The state is everything: calls and their cells").due("startCall(5) = 0; handOver(0,6) = 2; undo() = 1;"
                + "cellOf(0) = 5; channelOf(0) = 0; isInFixedScheme(0) = 1; usedCount(6) = 0; isAvailable(6,0) = 0");
        new Run("The state is everything: what the fixed scheme carries").due("configure(1,2,2,1) = 3; startCall(0) = 0;"
                + "endCall(0) = 0; undo() = 2; startCall(0) = 1; isInFixedScheme(0) = 1; isInFixedScheme(1) = 0");
        new Run("The state is everything: attempts and blocked calls").due("configure(1,1,2,1) = 3; startCall(0) = 0;"
                + "startCall(0) = -9; undo() = 2; attempts() = 1; blocked() = 0; blockedInFixedScheme() = 0");
        new Run("The state is everything: dropped calls").due("configure(1,2,2,1) = 3; startCall(0) = 0; startCall(1) = 1;"
                + "handOver(0,1) = -9; undo() = 3; dropped() = 0; droppedInFixedScheme() = 0; callCount() = 2");
        new Run("The state is everything: borrowings").due("startCall(5) = 0; startCall(5) = 1; startCall(5) = 2;"
                + "undo() = 2; borrowings() = 0; isAvailable(1,5) = 1");
        new Run("The state is everything: returns").due("startCall(5) = 0; startCall(5) = 1; startCall(5) = 2;"
                + "endCall(0) = 0; undo() = 3; returns() = 0; channelOf(2) = 5; isAvailable(1,5) = 0");
        Run.withSixtyCalls("The state is everything: the last of 60 calls").due("handOver(59,19) = 2; undo() = 5;"
                + "cellOf(59) = 14; channelOf(59) = 10; endCall(59) = 10; undo() = 5; channelOf(59) = 10;"
                + "isInFixedScheme(59) = 1");
        String counts = "callCount() = 5; attempts() = 10; blocked() = 5; blockedInFixedScheme() = 6; dropped() = 2;"
                + "droppedInFixedScheme() = 1; borrowings() = 4; returns() = 3;";
        new Run("The state is everything: all counts, by undo()").due(COUNTS_THAT_DIFFER + counts
                + "configure(3,4,2,2) = 6; attempts() = 0; undo() = 5;" + counts);
        new Run("The state is everything: all counts, by restore()").due(COUNTS_THAT_DIFFER + counts
                + "save(1) = 5; configure(3,4,2,2) = 6; attempts() = 0; restore(1) = 5;" + counts);
        new Run("But the text").due("startCall(0) = 0; save(0) = 1").type("s1").due("undo() = 0; clearText() = 2")
                .type("s1;").due("restore(0) = 1; runScript() = 1; undo() = 0; clearText() = 0");
        new Run("But the saved states").due("startCall(0) = 0; startCall(1) = 1; startCall(2) = 2; undo() = 2;"
                + "undo() = 1; undo() = 0; undo() = -2");
        new Run("But the snapshots").due("save(0) = 0; startCall(0) = 0; save(1) = 1; startCall(1) = 1; save(0) = 2;"
                + "undo() = 1; undo() = 0; restore(0) = 2; restore(1) = 1; restore(0) = 2");
    }

    private static void successfulCalls() {
        saves("configure", "configure(1,1,2,1) = 3", "cellCount() = 12");
        saves("configure, with the same values", "configure(3,4,2,2) = 6", "callCount() = 1");
        saves("setStrategy", "setStrategy(2) = 0", "setStrategy(0) = 0; undo() = 1");
        saves("setStrategy, with the same value", "setStrategy(0) = 0", "setStrategy(0) = 0; undo() = 1");
        saves("setReserve", "setReserve(3) = 0", "setReserve(0) = 0; undo() = 1");
        saves("setReserve, with the same value", "setReserve(0) = 0", "setReserve(0) = 0; undo() = 1");
        saves("setReturning", "setReturning(0) = 0", "setReturning(1) = 0; undo() = 1");
        saves("setReturning, with the same value", "setReturning(1) = 0", "returns() = 0");
        saves("startCall", "startCall(5) = 1", "callCount() = 1; cellOf(1) = -4");
        saves("endCall", "endCall(0) = 2", "callCount() = 1; cellOf(0) = 6");
        saves("handOver", "handOver(0,5) = 0", "cellOf(0) = 6");
        new Run("Every successful call first saves the state: a start that both block").due("configure(1,1,2,1) = 3;"
                + "startCall(0) = 0; startCall(0) = -9; undo() = 2; attempts() = 1; undo() = 1; attempts() = 0");
        new Run("Every successful call first saves the state: a handover that drops").due("configure(1,2,2,1) = 3;"
                + "startCall(0) = 0; startCall(1) = 1; handOver(0,1) = -9; undo() = 3; cellOf(0) = 0; undo() = 2");
        new Run("Every successful call first saves the state: an end without a channel").due("configure(1,2,2,1) = 3;"
                + "startCall(0) = 0; startCall(0) = 1; startCall(1) = 2; endCall(2) = -9; undo() = 4; cellOf(2) = 1");
        new Run("Every successful call first saves the state: runScript").due("startCall(6) = 0").script("s5;e0;", 2)
                .due("undo() = 1; callCount() = 1; cellOf(0) = 6; undo() = 0");
    }

    private static void saves(String method, String call, String before) {
        new Run("Every successful call first saves the state: " + method).due("startCall(6) = 0;" + call
                + "; undo() = 1;" + before + "; undo() = 0; callCount() = 0; undo() = -2");
    }

    private static void otherCalls() {
        String[] calls = {"configure(0,1,2,1) = -1", "setStrategy(3) = -1", "setReserve(4) = -1", "setReturning(2) = -1",
            "startCall(12) = -1", "endCall(1) = -4", "handOver(1,5) = -4", "handOver(0,12) = -1", "handOver(0,6) = -1",
            "runScript() = -10", "restore(0) = -2", "save(2) = -1"};
        for (String call : calls) {
            new Run("A call that is not successful saves nothing").due("startCall(6) = 0;" + call + "; undo() = 0;"
                    + "callCount() = 0; undo() = -2");
        }
        Run.withSixtyCalls("A call that is not successful saves nothing: 60 calls").due("startCall(0) = -3;"
                + "undo() = 5; callCount() = 59");
        new Run("Other calls save nothing: save").due("save(0) = 0; save(1) = 0; undo() = -2");
        new Run("Other calls save nothing: restore").due("save(0) = 0; restore(0) = 0; undo() = -2");
        new Run("Other calls save nothing: appendCharacter and clearText").due("appendCharacter(1) = 1; clearText() = 1;"
                + "undo() = -2");
        new Run("Other calls save nothing: undo").due("startCall(0) = 0; undo() = 0; undo() = -2");
        new Run("Other calls save nothing: what only asks").due("nextChannel(0) = 0; nextDonor(0) = -9;"
                + "blockingCells() = 0; cellCount() = 12; attempts() = 0; undo() = -2");
    }

    private static void mostRecent() {
        new Run("undo() restores the most recently saved state").due("setReserve(1) = 0; setReserve(2) = 1;"
                + "setReserve(3) = 2; undo() = 2; setReserve(0) = 2; undo() = 2; undo() = 1; setReserve(0) = 1");
        new Run("And discards it").due("setReserve(1) = 0; setReserve(2) = 1; undo() = 1; undo() = 0; undo() = -2;"
                + "setReserve(3) = 0");
        new Run("How many states are still saved: none").due("startCall(0) = 0; undo() = 0");
        new Run("How many states are still saved: five").due(SIX_SAVED + "undo() = 5");
    }

    private static void sixStates() {
        new Run("At most 6 states are saved: six").due(SIX_SAVED + ALL_SIX_UNDONE + "callCount() = 0; undo() = -2");
        new Run("At most 6 states are saved: five").due("startCall(1) = 0; startCall(2) = 1; startCall(3) = 2;"
                + "startCall(4) = 3; startCall(5) = 4; undo() = 4; undo() = 3; undo() = 2; undo() = 1; undo() = 0;"
                + "callCount() = 0; undo() = -2");
        new Run("When a seventh is saved, the oldest one is discarded").due(SIX_SAVED + "startCall(6) = 6;"
                + ALL_SIX_UNDONE + "callCount() = 1; undo() = -2; callCount() = 1");
        new Run("When an eighth is saved, so is the next one").due(SIX_SAVED + "startCall(6) = 6; startCall(7) = 7;"
                + ALL_SIX_UNDONE + "callCount() = 2; undo() = -2");
        new Run("When a seventh is saved: each one comes back").due(SIX_SAVED + "startCall(6) = 6; undo() = 5;"
                + "callCount() = 6; undo() = 4; callCount() = 5; undo() = 3; callCount() = 4; undo() = 2; callCount() = 3;"
                + "undo() = 1; callCount() = 2; undo() = 0; callCount() = 1");
        new Run("When a seventh is saved by a script").due(SIX_SAVED).script("s6;s7;", 2).due(ALL_SIX_UNDONE
                + "callCount() = 1; undo() = -2");
    }

    private static void aroundTheSix() {
        new Run("The places of saved states wrap around: saved and undone by turns").due(20, "setReserve(1) = 0;"
                + "setReserve(2) = 1; undo() = 1; undo() = 0").due("undo() = -2; setReserve(0) = 0");
        for (int changes = 6; changes <= 20; changes++) {
            Run run = new Run("The places of saved states wrap around: behind " + changes);
            for (int call = 0; call < changes; call++) {
                run.due("startCall(" + call % 12 + ") = " + call);
            }
            for (int left = 5; left >= 0; left--) {
                run.due("undo() = " + left + "; callCount() = " + (changes - 6 + left));
            }
            run.due("undo() = -2; callCount() = " + (changes - 6));
        }
        new Run("The places of saved states wrap around: undone in between").due(SIX_SAVED + "startCall(6) = 6;"
                + "undo() = 5; undo() = 4; startCall(7) = 5; startCall(8) = 6; startCall(9) = 7; undo() = 5;"
                + "callCount() = 7; undo() = 4; callCount() = 6; undo() = 3; callCount() = 5; undo() = 2; callCount() = 4;"
                + "undo() = 1; undo() = 0; callCount() = 2; undo() = -2");
    }

    private static void nothingSaved() {
        new Run("37: ILLEGAL_STATE if none is saved: a new object").due("undo() = -2");
        new Run("37: ILLEGAL_STATE if none is saved: all undone").due("startCall(0) = 0; undo() = 0; undo() = -2;"
                + "undo() = -2; callCount() = 0");
        new Run("37: ILLEGAL_STATE if none is saved: discarded by restore()").due("save(0) = 0;" + SIX_SAVED
                + "restore(0) = 0; undo() = -2");
        new Run("37: None is saved: then a call saves one again").due("undo() = -2; startCall(0) = 0; undo() = 0");
    }

    private static void slots() {
        new Run("Two snapshot slots, 0 and 1: the first").due("startCall(0) = 0; save(0) = 1; endCall(0) = 0;"
                + "restore(0) = 1; cellOf(0) = 0");
        new Run("Two snapshot slots, 0 and 1: the second").due("startCall(0) = 0; save(1) = 1; endCall(0) = 0;"
                + "restore(1) = 1; cellOf(0) = 0");
        new Run("Two snapshot slots, 0 and 1: each has its own").due("startCall(0) = 0; save(0) = 1; startCall(1) = 1;"
                + "save(1) = 2; endCall(0) = 0; restore(0) = 1; cellOf(1) = -4; restore(1) = 2; cellOf(1) = 1;"
                + "restore(0) = 1");
        new Run("38: slot 0 or 1: too small").due("save(-1) = -1; save(-2147483648) = -1; restore(0) = -2; restore(1) = -2");
        new Run("38: slot 0 or 1: too large").due("save(2) = -1; save(2147483647) = -1; restore(0) = -2; restore(1) = -2");
        new Run("39: slot 0 or 1: too small").due("save(0) = 0; save(1) = 0; restore(-1) = -1; restore(-2147483648) = -1");
        new Run("39: slot 0 or 1: too large").due("save(0) = 0; save(1) = 0; restore(2) = -1; restore(2147483647) = -1");
    }

    private static void emptySlots() {
        new Run("39: ILLEGAL_STATE if the slot is empty: both").due("restore(0) = -2; restore(1) = -2");
        new Run("39: ILLEGAL_STATE if the slot is empty: the second").due("save(0) = 0; restore(1) = -2; restore(0) = 0");
        new Run("39: ILLEGAL_STATE if the slot is empty: the first").due("save(1) = 0; restore(0) = -2; restore(1) = 0");
        new Run("39: ILLEGAL_STATE if the slot is empty: the saved states are kept").due("startCall(0) = 0;"
                + "startCall(1) = 1; restore(0) = -2; undo() = 1; undo() = 0");
        new Run("39: A slot is not emptied by configure() or undo()").due("startCall(0) = 0; save(0) = 1; undo() = 0;"
                + "configure(1,1,2,1) = 3; restore(0) = 1; cellCount() = 12");
    }

    private static void copies() {
        new Run("38: Copies the state: a snapshot does not change with it").due("startCall(5) = 0; save(0) = 1;"
                + "handOver(0,6) = 2; setReserve(2) = 0; startCall(6) = 1; restore(0) = 1; cellOf(0) = 5;"
                + "channelOf(0) = 0; cellOf(1) = -4; attempts() = 1; setReserve(0) = 0");
        new Run("38: Copies the state: into a slot that was full").due("startCall(5) = 0; save(0) = 1; startCall(6) = 1;"
                + "save(0) = 2; endCall(0) = 0; restore(0) = 2; callCount() = 2");
        new Run("38: The number of present calls: none").due("save(0) = 0");
        Run.withSixtyCalls("38: The number of present calls: 60").due("save(1) = 60; endCall(5) = 5;"
                + "restore(1) = 60; callCount() = 60; startCall(24) = -3");
        new Run("39: By a copy of the one in a slot, which is kept").due("startCall(5) = 0; save(0) = 1; restore(0) = 1;"
                + "endCall(0) = 0; startCall(6) = 0; setStrategy(1) = 0; restore(0) = 1; cellOf(0) = 5; attempts() = 1;"
                + "setStrategy(0) = 0");
        new Run("39: The number of present calls then: none").due("save(0) = 0; startCall(0) = 0; restore(0) = 0;"
                + "callCount() = 0");
        new Run("39: Into another network").due("configure(1,2,3,1) = 7; startCall(1) = 0; save(1) = 1;"
                + "configure(5,5,2,4) = 12; startCall(24) = 0; restore(1) = 1; cellCount() = 2; channelCount() = 7;"
                + "cellOf(0) = 1; channelOf(0) = 3; groupOf(2) = -1");
    }

    private static void restoreDiscards() {
        new Run("39: All states saved for undo() are discarded: all six").due(SIX_SAVED + "save(0) = 6; restore(0) = 6;"
                + "undo() = -2; callCount() = 6");
        new Run("39: All states saved for undo() are discarded: then six have room").due("save(0) = 0;" + SIX_SAVED
                + "restore(0) = 0;" + SIX_SAVED + ALL_SIX_UNDONE + "callCount() = 0; undo() = -2");
        new Run("39: All states saved for undo() are discarded: none of them comes back").due("save(0) = 0;"
                + "setReserve(1) = 0; setReserve(2) = 1; restore(0) = 0; setReserve(3) = 0; undo() = 0;"
                + "setReserve(1) = 0; undo() = 0; undo() = -2");
    }
}
