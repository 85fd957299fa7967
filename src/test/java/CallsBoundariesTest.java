/**
 * The boundaries that the sections "Calls" and "Fixed scheme" of the document name. Each run has the
 * sentence for its name.
 */
public final class CallsBoundariesTest {
    // The calls 0 and 1 have channels of cell 5 itself; call 2 has borrowed channel 5 from cell 1.
    private static final String ONE_BORROWED = "startCall(5) = 0; startCall(5) = 1; startCall(5) = 2;"
            + "channelOf(2) = 5; isBorrowed(2) = 1;";
    // Call 0 is in both, call 1 in the network alone, with a borrowed channel, and call 2 in the fixed scheme alone.
    private static final String TWO_CELLS = "configure(1,2,2,1) = 3; startCall(0) = 0; startCall(0) = 1;"
            + "startCall(1) = 2; channelOf(2) = -9; isInFixedScheme(1) = 0;";
    // In cell 8 the burdens of the channels 3, 0 and 4, which the calls 2, 3 and 4 have borrowed, are 1, 1 and 2.
    private static final String THREE_BORROWED = "setStrategy(2) = 0; startCall(8) = 0; startCall(8) = 1;"
            + "startCall(8) = 2; startCall(8) = 3; startCall(8) = 4; channelOf(2) = 3; channelOf(3) = 0;"
            + "channelOf(4) = 4; burden(8,3) = 1; burden(8,0) = 1; burden(8,4) = 2;";

    public static void main(String[] args) {
        sixtyCalls();
        lowestNumber();
        carriedByNeither();
        borrowed();
        noStep();
        oneStepAndMore();
        longPass();
        greatestBurden();
        lowestNominalChannel();
        whenPassesAreMade();
        fixedScheme();
        fixedSchemeDoesNotInfluence();
        Run.end();
    }

    private static void sixtyCalls() {
        Run.withSixtyCalls("There are at most 60 calls: the last one").due("callCount() = 60; cellOf(59) = 14; attempts() = 60");
        Run.withSixtyCalls("There are at most 60 calls: one more").due("startCall(20) = -3; callCount() = 60; attempts() = 60");
        Run.withSixtyCalls("There are at most 60 calls: there is room again").due("endCall(17) = 5; startCall(20) = 17;"
                + "startCall(20) = -3; callCount() = 60");
        Run.withSixtyCalls("There are at most 60 calls: a handover needs no room").due("handOver(59,19) = 2; cellOf(59) = 19;"
                + "callCount() = 60");
        Run.withSixtyCalls("There are at most 60 calls: the next one is chosen for without looking at them")
                .due("nextChannel(20) = 1; startCall(20) = -3");
    }

    private static void lowestNumber() {
        new Run("The lowest number from 0 on that no present call has: the first call").due("startCall(7) = 0");
        new Run("The lowest number: behind the last one").due("startCall(7) = 0; startCall(7) = 1; startCall(6) = 2");
        new Run("The lowest number: in a gap").due("startCall(7) = 0; startCall(7) = 1; startCall(6) = 2;"
                + "endCall(1) = 4; startCall(0) = 1; cellOf(1) = 0; startCall(0) = 3");
        new Run("The lowest number: in the first of two gaps").due("startCall(7) = 0; startCall(7) = 1;"
                + "startCall(6) = 2; endCall(2) = 2; endCall(0) = 1; startCall(0) = 0; startCall(0) = 2");
        new Run("The lowest number: of a dropped call").due("configure(1,2,2,1) = 3; startCall(0) = 0;"
                + "startCall(1) = 1; handOver(0,1) = -9; startCall(0) = 0; channelOf(0) = 0");
        new Run("The lowest number: a blocked call takes none").due("configure(1,1,2,1) = 3; startCall(0) = 0;"
                + "startCall(0) = -9; endCall(0) = 0; startCall(0) = 0");
    }

    private static void carriedByNeither() {
        gone("it has ended", "startCall(5) = 0; endCall(0) = 0;", 0);
        gone("it was dropped by both", "configure(1,2,2,1) = 3; startCall(0) = 0; startCall(1) = 1;"
                + "handOver(0,1) = -9;", 0);
        gone("it was in the network alone, and is dropped", "configure(1,2,2,1) = 3; startCall(1) = 0;"
                + "startCall(1) = 1; isInFixedScheme(1) = 0; endCall(0) = 2; channelOf(1) = 2; startCall(0) = 0;"
                + "handOver(1,0) = -9;", 1);
        gone("it was in the fixed scheme alone, and is dropped", TWO_CELLS + "handOver(2,0) = -9;", 2);
        gone("both have blocked it", "configure(1,1,2,1) = 3; startCall(0) = 0; startCall(0) = -9;", 1);
        new Run("Carried by the network alone, a call exists").due(TWO_CELLS + "cellOf(1) = 0; channelOf(1) = 2;"
                + "isBorrowed(1) = 1; isInFixedScheme(1) = 0");
        new Run("Carried by the fixed scheme alone, a call exists").due(TWO_CELLS + "cellOf(2) = 1;"
                + "channelOf(2) = -9; isBorrowed(2) = 0; isInFixedScheme(2) = 1");
    }

    private static void gone(String why, String calls, int call) {
        new Run("A call that is carried by neither of them does not exist any more: " + why).due(calls + "cellOf(" + call
                + ") = -4; channelOf(" + call + ") = -4; isBorrowed(" + call + ") = -4; isInFixedScheme(" + call
                + ") = -4; endCall(" + call + ") = -4; handOver(" + call + ",0) = -4; handOver(" + call + ",1) = -4");
    }

    private static void borrowed() {
        new Run("Borrowed if its channel is not nominal for the cell: it is nominal").due("startCall(5) = 0;"
                + "channelOf(0) = 0; isBorrowed(0) = 0");
        new Run("Borrowed if its channel is not nominal for the cell: it is not").due(ONE_BORROWED + "groupOf(5) = 0;"
                + "isBorrowed(2) = 1; borrowings() = 1");
        new Run("Borrowed: for the cell where the call is, behind a handover").due("startCall(5) = 0;"
                + "startCall(5) = 1; startCall(4) = 2; isBorrowed(2) = 0; handOver(2,5) = 5; isBorrowed(2) = 1;"
                + "handOver(2,4) = 1; isBorrowed(2) = 0");
        new Run("Borrowed: not without a channel").due(TWO_CELLS + "isBorrowed(2) = 0");
    }

    private static void noStep() {
        new Run("As long as there is a borrowed call: there is none").due("startCall(5) = 0; startCall(5) = 1;"
                + "endCall(0) = 0; channelOf(1) = 3; returns() = 0; setReturning(1) = 0");
        new Run("As long as there is a borrowed call: there is no call").due("setReturning(1) = 0; returns() = 0;"
                + "startCall(5) = 0; endCall(0) = 0; returns() = 0");
        new Run("In whose cell a nominal channel is available: none is").due(ONE_BORROWED + "startCall(6) = 3;"
                + "endCall(3) = 2; channelOf(2) = 5; returns() = 0");
        // The nominal channel of cell 1 is not used there, but locked by cell 0, to which it was lent.
        new Run("In whose cell a nominal channel is available: it is locked").due("configure(1,3,2,1) = 3;"
                + "startCall(0) = 0; startCall(0) = 1; startCall(1) = 2; channelOf(2) = 1; setReturning(0) = 0;"
                + "usedCount(1) = 1; lockedCount(1) = 1; setReturning(1) = 0; isBorrowed(2) = 1; returns() = 0");
    }

    private static void oneStepAndMore() {
        new Run("A returning pass consists of steps: one").due(ONE_BORROWED + "endCall(0) = 0; channelOf(2) = 0;"
                + "returns() = 1");
        new Run("A returning pass consists of steps: two in one cell").due(ONE_BORROWED + "startCall(5) = 3;"
                + "setReturning(0) = 0; endCall(0) = 0; endCall(1) = 3; setReturning(1) = 2; isBorrowed(2) = 0;"
                + "isBorrowed(3) = 0; returns() = 2");
        new Run("A returning pass consists of steps: more borrowed calls than channels").due(ONE_BORROWED
                + "startCall(5) = 3; endCall(0) = 0; isBorrowed(2) = 0; isBorrowed(3) = 1; returns() = 1");
        new Run("As long as: a step frees the channel for the next one").due(ONE_BORROWED + "startCall(1) = 3;"
                + "startCall(1) = 4; channelOf(4) = 4; endCall(0) = 0; channelOf(2) = 0; channelOf(4) = 5;"
                + "returns() = 2");
        new Run("In place of its channel: that one is available again").due(ONE_BORROWED + "isAvailable(1,5) = 0;"
                + "endCall(0) = 0; isAvailable(1,5) = 1; isAvailable(5,5) = 1; usedCount(5) = 2; lockCount(1,0) = 1;"
                + "borrowings() = 1");
    }

    /** In each of seven cells, four calls keep four others from the channels 0, 3, 6 and 9, and then end. */
    private static void longPass() {
        Run run = new Run("A returning pass consists of steps: 28").due("configure(5,5,2,4) = 12; setReturning(0) = 0");
        int[] cells = {0, 3, 6, 9, 12, 15, 18};
        for (int call = 0; call < 56; call++) {
            run.due("startCall(" + cells[call / 8] + ") = " + call + "; isBorrowed(" + call + ") = " + call % 8 / 4);
        }
        for (int call = 0; call < 56; call++) {
            if (call % 8 < 4) {
                run.due("endCall(" + call + ") = " + 3 * (call % 8));
            }
        }
        run.due("setReturning(1) = 28; returns() = 28; isBorrowed(4) = 0; isBorrowed(55) = 0; setReturning(1) = 0");
    }

    private static void greatestBurden() {
        new Run("The greatest burden: of the call with the greatest number").due(THREE_BORROWED + "endCall(0) = 2;"
                + "channelOf(4) = 2; channelOf(2) = 3; channelOf(3) = 0; returns() = 1");
        new Run("Of several the one with the lowest number").due(THREE_BORROWED + "endCall(0) = 2; endCall(1) = 5;"
                + "channelOf(2) = 5; channelOf(3) = 0; returns() = 2");
        // The calls 0 and 3 have borrowed channels of equal burden.
        new Run("Of several the one with the lowest number: number 0").due("startCall(4) = 0; startCall(5) = 1;"
                + "startCall(5) = 2; handOver(0,5) = 5; startCall(5) = 3; isBorrowed(3) = 1; burden(5,5) = 3;"
                + "burden(5,4) = 3; endCall(1) = 0; channelOf(0) = 0; isBorrowed(3) = 1; returns() = 1");
        new Run("The greatest burden: only of the calls in whose cell a nominal channel is available").due(
                ONE_BORROWED + "startCall(3) = 3; startCall(3) = 4; startCall(3) = 5; burden(5,5) = 3;"
                + "burden(3,4) = 2; channelOf(5) = 4; endCall(3) = 0; channelOf(5) = 0; channelOf(2) = 5; returns() = 1");
        // Call 3 returns first and frees channel 3, to which call 1, the one with the lower number, then returns.
        new Run("The greatest burden: of the calls of all cells").due("configure(2,4,3,2) = 14; setReturning(0) = 0;"
                + "startCall(7) = 0; startCall(5) = 1; startCall(7) = 2; endCall(0) = 3; startCall(5) = 0;"
                + "startCall(5) = 3; startCall(5) = 4; endCall(1) = 4; startCall(7) = 1; endCall(2) = 10;"
                + "channelOf(1) = 9; burden(7,9) = 1; channelOf(3) = 3; burden(5,3) = 2; isAvailable(7,3) = 0;"
                + "isAvailable(7,10) = 1; setReturning(1) = 2; channelOf(3) = 4; channelOf(1) = 3");
    }

    private static void lowestNominalChannel() {
        new Run("The lowest available nominal channel: of two").due("setReturning(0) = 0;" + ONE_BORROWED
                + "endCall(0) = 0; endCall(1) = 3; setReturning(1) = 1; channelOf(2) = 0");
        new Run("The lowest available nominal channel: the lower one is used").due(ONE_BORROWED + "endCall(1) = 3;"
                + "channelOf(2) = 3");
        // Cell 5 has borrowed both channels of cell 1, and gives the greater one back.
        new Run("The lowest available nominal channel: the lower one is locked").due("startCall(5) = 0;"
                + "startCall(5) = 1; startCall(5) = 2; startCall(5) = 3; startCall(5) = 4; channelOf(2) = 5;"
                + "channelOf(4) = 2; startCall(1) = 5; channelOf(5) = 1; endCall(2) = 5; lockCount(1,2) = 1;"
                + "channelOf(5) = 5; returns() = 1");
    }

    private static void whenPassesAreMade() {
        new Run("If returning is switched on (at first it is)").due(ONE_BORROWED + "endCall(0) = 0; returns() = 1");
        new Run("If returning is switched on: it is off, and a call ends").due("setReturning(0) = 0;" + ONE_BORROWED
                + "endCall(0) = 0; channelOf(2) = 5; returns() = 0");
        new Run("If returning is switched on: it is off, and a call is handed over").due("setReturning(0) = 0;"
                + ONE_BORROWED + "handOver(0,4) = 1; channelOf(2) = 5; returns() = 0");
        new Run("If returning is switched on: it is switched off once more").due("setReturning(0) = 0;"
                + ONE_BORROWED + "endCall(0) = 0; setReturning(0) = 0; channelOf(2) = 5; returns() = 0");
        new Run("After the operations that say so: not when a call starts").due("setReturning(0) = 0;" + ONE_BORROWED
                + "startCall(5) = 3; endCall(0) = 0; endCall(1) = 3; startCall(5) = 0; isBorrowed(2) = 1;"
                + "isBorrowed(3) = 1; setReturning(1) = 1; returns() = 1");
        new Run("After the operations that say so: not when strategy or reserve are set, or states come back").due(
                "setReturning(0) = 0;" + ONE_BORROWED + "endCall(0) = 0; setStrategy(1) = 0; setReserve(1) = 0;"
                + "save(0) = 2; undo() = 5; restore(0) = 2; isBorrowed(2) = 1; returns() = 0");
    }

    private static void fixedScheme() {
        for (int size = 1; size <= 4; size++) {
            Run run = new Run("There a cell carries at most as many calls as a group has channels: " + size)
                    .due("configure(1,2,3," + size + ") = " + 7 * size);
            for (int call = 0; call < size; call++) {
                run.due("startCall(0) = " + call + "; isInFixedScheme(" + call + ") = 1; blockedInFixedScheme() = 0");
            }
            run.due("startCall(0) = " + size + "; isInFixedScheme(" + size + ") = 0; blockedInFixedScheme() = 1;"
                    + "startCall(1) = " + (size + 1) + "; isInFixedScheme(" + (size + 1) + ") = 1");
        }
        new Run("A new call is accepted in its cell if the cell carries fewer calls there: again").due(TWO_CELLS
                + "endCall(0) = 0; channelOf(1) = 0; startCall(0) = 0; isInFixedScheme(0) = 1; isInFixedScheme(1) = 0;"
                + "blockedInFixedScheme() = 1");
        new Run("Otherwise it is blocked there").due("startCall(5) = 0; startCall(5) = 1; blockedInFixedScheme() = 0;"
                + "startCall(5) = 2; isInFixedScheme(2) = 0; blockedInFixedScheme() = 1; blocked() = 0");
        Run.withSixtyCalls("There a cell carries at most as many calls as a group has channels: also those with great numbers")
                .due("endCall(0) = 0; startCall(14) = -9; blockedInFixedScheme() = 1; startCall(15) = 0;"
                + "isInFixedScheme(0) = 1");
        new Run("There a call does not come in later").due(ONE_BORROWED + "endCall(0) = 0; isInFixedScheme(2) = 0;"
                + "endCall(1) = 3; isInFixedScheme(2) = 0");
    }

    private static void fixedSchemeDoesNotInfluence() {
        // Call 2 is in cell 1 for the fixed scheme alone.
        String alone = TWO_CELLS + "endCall(1) = 2; endCall(0) = 0;";
        new Run("The fixed scheme does not influence the network: no channel is used").due(alone
                + "usedCount(1) = 0; availableCount(1) = 1; lockedCount(0) = 0; lockCount(0,2) = 0; blockingCells() = 0");
        new Run("The fixed scheme does not influence the network: a call without a channel does not get one").due(
                alone + "channelOf(2) = -9; setReturning(1) = 0; channelOf(2) = -9; handOver(2,0) = -9;"
                + "cellOf(2) = 0; channelOf(2) = -9; isInFixedScheme(2) = 1; dropped() = 0; returns() = 0");
        new Run("The fixed scheme does not influence the network: a full cell there").due(alone
                + "startCall(1) = 0; isInFixedScheme(0) = 0; channelOf(0) = 2; isBorrowed(0) = 0");
    }
}
