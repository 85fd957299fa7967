/** Promises 37 to 39: undo, save and restore. */
public final class UndoAndSnapshotsTest {
    public static void main(String[] args) {
        whatIsSaved();
        sixStates();
        whatIsUndone();
        save();
        restore();
        Run.end();
    }

    private static void whatIsSaved() {
        new Run("37: nothing to undo").due("undo() = -2; undo() = -2; callCount() = 0");
        new Run("37: each change").due("configure(3,4,2,2) = 6; setStrategy(0) = 0; setReserve(0) = 0;"
                + "setReturning(1) = 0; startCall(0) = 0; undo() = 4; undo() = 3; undo() = 2; undo() = 1; undo() = 0;"
                + "undo() = -2; startCall(0) = 0; handOver(0,1) = 2; endCall(0) = 2").script("s0;s0;", 2)
                .due("undo() = 3; callCount() = 0; undo() = 2; cellOf(0) = 1; undo() = 1; cellOf(0) = 0; undo() = 0;"
                + "callCount() = 0; undo() = -2");
        new Run("37: what fails is not saved").due("configure(0,0,0,0) = -1; setStrategy(3) = -1; setReserve(4) = -1;"
                + "setReturning(2) = -1; startCall(12) = -1; endCall(0) = -4; handOver(0,0) = -4; runScript() = -10;"
                + "undo() = -2");
        new Run("37: what only asks is not saved").due("cellCount() = 12; nextChannel(0) = 0; save(0) = 0;"
                + "appendCharacter(32) = 1; clearText() = 1; blockingCells() = 0; undo() = -2");
        new Run("37: a blocked call is saved").due("configure(1,1,2,1) = 3; startCall(0) = 0; startCall(0) = -9;"
                + "undo() = 2; attempts() = 1; undo() = 1; attempts() = 0");
    }

    private static void sixStates() {
        new Run("37: six").due("startCall(0) = 0; startCall(1) = 1; startCall(2) = 2; startCall(3) = 3; startCall(4) = 4;"
                + "startCall(5) = 5; undo() = 5; undo() = 4; undo() = 3; undo() = 2; undo() = 1; undo() = 0;"
                + "callCount() = 0; undo() = -2");
        new Run("37: the seventh").due("startCall(0) = 0; startCall(1) = 1; startCall(2) = 2; startCall(3) = 3;"
                + "startCall(4) = 4; startCall(5) = 5; startCall(6) = 6; undo() = 5; undo() = 4; undo() = 3; undo() = 2;"
                + "undo() = 1; undo() = 0; callCount() = 1; cellOf(0) = 0; undo() = -2; callCount() = 1");
        Run run = new Run("37: many times around").due(20, "setReserve(1) = 0; setReserve(0) = 1");
        run.due("setReserve(2) = 0; setReserve(3) = 2; undo() = 5; setReserve(1) = 2; undo() = 5; undo() = 4;"
                + "undo() = 3; undo() = 2; undo() = 1; undo() = 0; undo() = -2; setReserve(2) = 0; undo() = 0;"
                + "setReserve(0) = 0");
    }

    private static void whatIsUndone() {
        new Run("37: settings").due("setStrategy(2) = 0; setReserve(3) = 0; setReturning(0) = 0; configure(1,2,3,1) = 7;"
                + "undo() = 3; cellCount() = 12; undo() = 2; undo() = 1; undo() = 0; setStrategy(1) = 0;"
                + "setReserve(1) = 0");
        new Run("37: counts").due("configure(1,2,2,1) = 3; startCall(0) = 0; startCall(0) = 1; startCall(1) = 2;"
                + "handOver(0,1) = -9; undo() = 4; channelOf(0) = 0; dropped() = 0; droppedInFixedScheme() = 0;"
                + "undo() = 3; blocked() = 0; undo() = 2; borrowings() = 0; blockedInFixedScheme() = 0; attempts() = 1;"
                + "startCall(0) = 1; borrowings() = 1");
        new Run("37: returns").due("startCall(5) = 0; startCall(5) = 1; startCall(5) = 2; endCall(0) = 0; returns() = 1;"
                + "undo() = 3; returns() = 0; channelOf(0) = 0; channelOf(2) = 5; lockCount(1,5) = 1; lockCount(1,0) = 1;"
                + "usedCount(5) = 3; endCall(1) = 3; channelOf(2) = 3");
        new Run("37: undo is not undone").due("startCall(0) = 0; startCall(1) = 1; undo() = 1; undo() = 0; undo() = -2");
    }

    private static void save() {
        new Run("38: calls").due("save(0) = 0; startCall(0) = 0; startCall(1) = 1; save(1) = 2; endCall(0) = 0;"
                + "save(0) = 1; save(0) = 1");
        new Run("38: out of range").due("save(2) = -1; save(-1) = -1; save(2147483647) = -1; save(-2147483648) = -1;"
                + "restore(0) = -2; restore(1) = -2");
        new Run("38: a copy").due("startCall(5) = 0; save(0) = 1; startCall(5) = 1; endCall(0) = 0; restore(0) = 1;"
                + "channelOf(0) = 0; channelOf(1) = -4; attempts() = 1; endCall(0) = 0; restore(0) = 1;"
                + "channelOf(0) = 0");
    }

    private static void restore() {
        new Run("39: out of range").due("save(0) = 0; startCall(0) = 0; restore(2) = -1; restore(-1) = -1;"
                + "restore(2147483647) = -1; restore(-2147483648) = -1; restore(1) = -2; callCount() = 1; undo() = 0");
        new Run("39: discards the saved states").due("startCall(0) = 0; startCall(1) = 1; save(1) = 2; startCall(2) = 2;"
                + "restore(1) = 2; undo() = -2; startCall(3) = 2; undo() = 0; callCount() = 2; undo() = -2");
        new Run("39: two slots").due("startCall(0) = 0; save(0) = 1; startCall(1) = 1; save(1) = 2; restore(0) = 1;"
                + "cellOf(1) = -4; restore(1) = 2; cellOf(1) = 1; restore(0) = 1; save(1) = 1; restore(1) = 1");
        new Run("39: everything but the text").due("setStrategy(2) = 0; setReserve(1) = 0; setReturning(0) = 0;"
                + "configure(1,2,2,2) = 6; startCall(0) = 0; startCall(0) = 1; startCall(0) = 2; startCall(0) = -9;"
                + "save(0) = 3; configure(5,5,3,4) = 28; setStrategy(1) = 2; setReserve(3) = 1; setReturning(1) = 0").type("s0").due("restore(0) = 3;"
                + "cellCount() = 2; channelCount() = 6; attempts() = 4; blocked() = 1; isInFixedScheme(2) = 0;"
                + "clearText() = 2; setStrategy(0) = 2; setReserve(0) = 1");
        new Run("39: slots are no part of the state").due("startCall(0) = 0; save(0) = 1; undo() = 0; restore(0) = 1;"
                + "configure(1,1,2,1) = 3; restore(0) = 1; cellCount() = 12");
    }
}
