/**
 * The boundaries that the promises 1 to 33 name besides the ranges of their arguments. Each run has
 * the promise's number and the sentence for its name.
 */
public final class PromisesBoundariesTest {
    // Call 0 is in both, call 1 in the network alone, with a borrowed channel, and call 2 in the fixed scheme alone.
    private static final String TWO_CELLS = "configure(1,2,2,1) = 3; startCall(0) = 0; startCall(0) = 1;"
            + "startCall(1) = 2; channelOf(2) = -9; isInFixedScheme(1) = 0;";
    // Cell 5 uses all six channels, four of them borrowed.
    private static final String ALL_IN_5 = "startCall(5) = 0; startCall(5) = 1; startCall(5) = 2; startCall(5) = 3;"
            + "startCall(5) = 4; startCall(5) = 5;";

    public static void main(String[] args) {
        newObject();
        configure();
        settings();
        startCall();
        endCall();
        handOver();
        handOverCarried();
        locks();
        countsOfCells();
        nextChannelAndDonor();
        blockingCells();
        countsAtFirst();
        countsOfAttempts();
        countsOfDrops();
        countsBeyondAByte();
        Run.end();
    }

    private static void newObject() {
        new Run("1: Without calls").due("callCount() = 0; cellOf(0) = -4; usedCount(0) = 0; availableCount(0) = 2;"
                + "startCall(0) = 0");
        new Run("1: With an empty text").due("clearText() = 0; runScript() = -10; appendCharacter(115) = 1");
        // What one object does is nothing to another one.
        new Run("1: A network of its own").due("startCall(5) = 0; setStrategy(2) = 0; save(0) = 1; appendCharacter(1) = 1");
        new Run("1: A network of its own").due("callCount() = 0; setStrategy(0) = 0; restore(0) = -2; clearText() = 0");
    }

    private static void configure() {
        new Run("2: Returns the number of channels: the fewest").due("configure(1,1,2,1) = 3; channelCount() = 3");
        new Run("2: Returns the number of channels: the most").due("configure(1,1,3,4) = 28; channelCount() = 28");
        new Run("2: Makes a new network without calls").due(ALL_IN_5 + "configure(3,4,2,2) = 6; callCount() = 0;"
                + "usedCount(5) = 0; availableCount(5) = 2; lockedCount(1) = 0; cellOf(0) = -4; startCall(5) = 0;"
                + "channelOf(0) = 0; isInFixedScheme(0) = 1");
        new Run("2: All counts are 0").due(TWO_CELLS + "handOver(0,1) = -9; callCount() = 2; attempts() = 3;"
                + "blocked() = 1; blockedInFixedScheme() = 1; dropped() = 1; droppedInFixedScheme() = 1; borrowings() = 1;"
                + "returns() = 1; configure(1,2,2,1) = 3; callCount() = 0; attempts() = 0; blocked() = 0;"
                + "blockedInFixedScheme() = 0; dropped() = 0; droppedInFixedScheme() = 0; borrowings() = 0; returns() = 0");
        new Run("2: All counts are 0: with the same values").due(ALL_IN_5 + "endCall(0) = 0; configure(3,4,2,2) = 6;"
                + "attempts() = 0; blockedInFixedScheme() = 0; borrowings() = 0; returns() = 0");
        new Run("2: All counts are 0: and count again").due("startCall(5) = 0; configure(3,4,2,2) = 6; startCall(5) = 0;"
                + "attempts() = 1; callCount() = 1");
        new Run("2: Strategy stays as it is").due("setStrategy(2) = 0; configure(3,4,2,2) = 6; setStrategy(0) = 2");
        new Run("2: Reserve stays as it is").due("setReserve(3) = 0; configure(3,4,2,2) = 6; setReserve(0) = 3");
        new Run("2: Returning stays as it is").due("setReturning(0) = 0; configure(3,4,2,2) = 6; startCall(5) = 0;"
                + "startCall(5) = 1; startCall(5) = 2; endCall(0) = 0; returns() = 0");
    }

    private static void settings() {
        new Run("3: Returns the previous strategy: the same").due("setStrategy(2) = 0; setStrategy(2) = 2;"
                + "setStrategy(2) = 2");
        new Run("3: Returns the previous strategy: behind a refused one").due("setStrategy(1) = 0; setStrategy(3) = -1;"
                + "setStrategy(0) = 1");
        new Run("4: Returns the previous reserve: the same").due("setReserve(3) = 0; setReserve(3) = 3; setReserve(3) = 3");
        new Run("4: Returns the previous reserve: behind a refused one").due("setReserve(1) = 0; setReserve(4) = -1;"
                + "setReserve(0) = 1");
        new Run("5: How many calls have returned in the pass: none").due("setReturning(1) = 0; setReturning(0) = 0;"
                + "setReturning(0) = 0; setReturning(1) = 0");
        new Run("5: How many calls have returned in the pass: in this one, not in all").due(ALL_IN_5 + "endCall(0) = 0;"
                + "returns() = 1; setReturning(0) = 0; endCall(1) = 3; setReturning(1) = 1; setReturning(1) = 0;"
                + "returns() = 2");
        new Run("5: If it is switched on, a returning pass is made: not if it is switched off").due("setReturning(0) = 0;"
                + ALL_IN_5 + "endCall(0) = 0; setReturning(0) = 0; returns() = 0; setReturning(1) = 1");
        new Run("5: INVALID_ARGUMENT: no pass is made, and it stays off").due("setReturning(0) = 0;" + ALL_IN_5
                + "endCall(0) = 0; setReturning(2) = -1; setReturning(-1) = -1; returns() = 0; endCall(1) = 3;"
                + "returns() = 0");
    }

    private static void startCall() {
        new Run("10: Both carry it").due("startCall(0) = 0; channelOf(0) = 0; isInFixedScheme(0) = 1; attempts() = 1;"
                + "blocked() = 0; blockedInFixedScheme() = 0");
        new Run("10: The network alone carries it").due("configure(1,2,2,1) = 3; startCall(0) = 0; startCall(0) = 1;"
                + "channelOf(1) = 2; isInFixedScheme(1) = 0; attempts() = 2; blocked() = 0; blockedInFixedScheme() = 1");
        new Run("10: The fixed scheme alone carries it").due(TWO_CELLS + "isInFixedScheme(2) = 1; attempts() = 3;"
                + "blocked() = 1; blockedInFixedScheme() = 1");
        new Run("10: If both of them block it, it gets no number").due("configure(1,1,2,1) = 3; startCall(0) = 0;"
                + "startCall(0) = -9; attempts() = 2; blocked() = 1; blockedInFixedScheme() = 1; callCount() = 1;"
                + "cellOf(1) = -4; usedCount(0) = 1");
        new Run("10: A blocked call leaves no channel and no borrowing").due(TWO_CELLS + "startCall(1) = -9;"
                + "usedCount(1) = 0; borrowings() = 1; callCount() = 3");
    }

    private static void endCall() {
        new Run("11: Returns the channel that the call had: 0").due("startCall(0) = 0; endCall(0) = 0; callCount() = 0");
        new Run("11: Returns the channel that the call had: the greatest of all").due("configure(1,4,3,4) = 28;"
                + "groupOf(2) = 6; startCall(2) = 0; startCall(2) = 1; startCall(2) = 2; startCall(2) = 3;"
                + "endCall(3) = 27; callCount() = 3");
        new Run("11: Returns the channel that the call had: a borrowed one").due("startCall(5) = 0; startCall(5) = 1;"
                + "startCall(5) = 2; endCall(2) = 5; isAvailable(1,5) = 1");
        new Run("11: Or NONE if it was not carried by the network").due(TWO_CELLS + "endCall(2) = -9; cellOf(2) = -4;"
                + "startCall(1) = 2; isInFixedScheme(2) = 1");
        // Cell 2 has its channels from handovers; there the fixed scheme has room for a call without one.
        new Run("11: Or NONE: then the cell goes on using all its channels").due("configure(3,1,3,4) = 28;"
                + "startCall(1) = 0; startCall(1) = 1; startCall(1) = 2; startCall(1) = 3; startCall(1) = 4;"
                + "startCall(1) = 5; startCall(1) = 6; startCall(1) = 7; handOver(4,2) = 2; handOver(5,2) = 9;"
                + "handOver(6,2) = 23; handOver(7,2) = -9; startCall(2) = 7; startCall(2) = 8; channelOf(8) = -9;"
                + "endCall(8) = -9; usedCount(2) = 4; isAvailable(2,23) = 0; lockCount(1,23) = 1");
        new Run("11: Then a returning pass is made: for another call of the cell").due(ALL_IN_5 + "endCall(1) = 3;"
                + "channelOf(2) = 3; returns() = 1");
        new Run("11: Then a returning pass is made: the ended call does not return").due(ALL_IN_5
                + "endCall(5) = 1; returns() = 0; cellOf(5) = -4; usedCount(5) = 5");
    }

    private static void handOver() {
        new Run("12: While it still uses its channel in the old cell").due("configure(1,2,2,1) = 3; startCall(0) = 0;"
                + "startCall(1) = 1; handOver(1,0) = -9; dropped() = 1; isAvailable(0,2) = 1; nextChannel(0) = 2");
        new Run("12: While it still uses its channel: then it is free").due("startCall(5) = 0; handOver(0,6) = 2;"
                + "isAvailable(5,0) = 1; usedCount(5) = 0; usedCount(6) = 1; isAvailable(5,2) = 0");
        // In cell 1 the call finds channel 5 locked by itself; it returns to it when it has let it go.
        new Run("12: Returns the channel of the call before the returning pass").due("startCall(5) = 0;"
                + "startCall(5) = 1; startCall(5) = 2; startCall(1) = 3; handOver(2,1) = 4; channelOf(2) = 5;"
                + "returns() = 1; borrowings() = 2");
        new Run("12: Returns the channel before the pass: returning is off").due("setReturning(0) = 0; startCall(5) = 0;"
                + "startCall(5) = 1; startCall(5) = 2; startCall(1) = 3; handOver(2,1) = 4; channelOf(2) = 4;"
                + "isBorrowed(2) = 1; returns() = 0");
        new Run("12: After that a returning pass is made: in the old cell").due(ALL_IN_5 + "handOver(0,6) = -9;"
                + "channelOf(2) = 0; returns() = 1; dropped() = 1");
        new Run("12: It is no attempt, and no call is blocked").due("configure(1,2,2,1) = 3; startCall(0) = 0;"
                + "startCall(1) = 1; handOver(0,1) = -9; attempts() = 2; blocked() = 0; blockedInFixedScheme() = 0");
        new Run("12: INVALID_ARGUMENT if it is not a neighbour: the cell of the call, behind a handover").due(
                "startCall(5) = 0; handOver(0,6) = 2; handOver(0,6) = -1; handOver(0,4) = -1; handOver(0,5) = 0");
    }

    private static void handOverCarried() {
        String dropped = "dropped() = 1; droppedInFixedScheme() = 0";
        new Run("12: Carried by both: both carry it on").due("startCall(5) = 0; handOver(0,6) = 2; cellOf(0) = 6;"
                + "isInFixedScheme(0) = 1; dropped() = 0; droppedInFixedScheme() = 0");
        new Run("12: Carried by both: the network drops it").due("configure(1,2,2,1) = 3; startCall(0) = 0;"
                + "startCall(0) = 1; handOver(0,1) = -9; cellOf(0) = 1; channelOf(0) = -9; isInFixedScheme(0) = 1;"
                + dropped);
        new Run("12: Carried by both: the fixed scheme drops it").due("configure(1,3,2,1) = 3; startCall(0) = 0;"
                + "startCall(1) = 1; handOver(0,1) = 1; cellOf(0) = 1; isInFixedScheme(0) = 0; isBorrowed(0) = 1;"
                + "dropped() = 0; droppedInFixedScheme() = 1; callCount() = 2");
        new Run("12: Carried by both: both drop it").due("configure(1,2,2,1) = 3; startCall(0) = 0; startCall(1) = 1;"
                + "handOver(0,1) = -9; cellOf(0) = -4; dropped() = 1; droppedInFixedScheme() = 1; callCount() = 1");
        String network = "configure(1,3,2,1) = 3; startCall(0) = 0; startCall(0) = 1; endCall(0) = 0; channelOf(1) = 0;"
                + "isInFixedScheme(1) = 0;";
        new Run("12: Carried by the network alone: it carries it on, and the fixed scheme does not take it").due(network
                + "handOver(1,1) = 2; cellOf(1) = 1; isInFixedScheme(1) = 0; dropped() = 0; droppedInFixedScheme() = 0");
        new Run("12: Carried by the network alone: it drops it").due(network + "startCall(1) = 0; startCall(1) = 2;"
                + "handOver(1,1) = -9; cellOf(1) = -4;" + dropped);
        new Run("12: Carried by the fixed scheme alone: it carries it on, and the network does not take it").due(
                "configure(1,3,2,1) = 3; startCall(0) = 0; startCall(0) = 1; startCall(2) = 2; startCall(1) = 3;"
                + "channelOf(3) = -9; endCall(2) = 1; nextChannel(2) = 1; handOver(3,2) = -9; cellOf(3) = 2;"
                + "isInFixedScheme(3) = 1; channelOf(3) = -9; dropped() = 0; droppedInFixedScheme() = 0");
        new Run("12: Carried by the fixed scheme alone: it drops it").due(TWO_CELLS + "handOver(2,0) = -9;"
                + "cellOf(2) = -4; dropped() = 0; droppedInFixedScheme() = 1");
        new Run("12: The new cell accepts it if it carries fewer calls than a group has channels: one fewer").due(
                "startCall(6) = 0; startCall(5) = 1; handOver(1,6) = 5; isInFixedScheme(1) = 1");
        new Run("12: The new cell accepts it if it carries fewer calls than a group has channels: as many").due(
                "startCall(6) = 0; startCall(6) = 1; startCall(5) = 2; handOver(2,6) = 4; isInFixedScheme(2) = 0;"
                + "droppedInFixedScheme() = 1");
        new Run("12: It leaves the old cell there").due("startCall(5) = 0; startCall(5) = 1; handOver(0,6) = 2;"
                + "startCall(5) = 2; isInFixedScheme(2) = 1; blockedInFixedScheme() = 0");
    }

    private static void locks() {
        new Run("17: Used in the cell itself").due("startCall(5) = 0; isAvailable(5,0) = 0; isAvailable(5,3) = 1");
        new Run("17: Locked in the cell").due("startCall(5) = 0; isAvailable(6,0) = 0; isAvailable(6,3) = 1");
        new Run("18: The other cells: the cell itself does not count").due("startCall(5) = 0; lockCount(5,0) = 0;"
                + "lockCount(6,0) = 1");
        new Run("18: The number of these cells: none").due("lockCount(5,0) = 0; startCall(3) = 0; lockCount(5,0) = 0");
        new Run("18: The number of these cells: three of six neighbours").due("startCall(1) = 0; startCall(6) = 1;"
                + "startCall(8) = 2; lockCount(5,2) = 3; lockCount(4,2) = 2; endCall(1) = 2; lockCount(5,2) = 2");
        new Run("18: A distance less than the reuse distance: 1 is, 2 is not").due("configure(1,3,2,1) = 3;"
                + "startCall(0) = 0; lockCount(1,0) = 1; lockCount(2,0) = 0");
        new Run("18: A distance less than the reuse distance: 2 is, 3 is not").due("configure(1,4,3,1) = 7;"
                + "startCall(0) = 0; lockCount(2,0) = 1; lockCount(3,0) = 0");
        new Run("18: Two cells at distance 2 on both sides").due("configure(1,5,3,1) = 7; startCall(0) = 0;"
                + "startCall(1) = 1; startCall(4) = 2; startCall(4) = 3; channelOf(3) = 2; lockCount(2,2) = 1;"
                + "lockCount(2,0) = 1; lockCount(2,3) = 1; lockCount(2,5) = 1");
    }

    private static void countsOfCells() {
        new Run("20: The nominal channels that are available: all").due("configure(1,1,2,4) = 12; availableCount(0) = 4");
        new Run("20: The nominal channels that are available: none, used").due("configure(1,1,2,1) = 3;"
                + "startCall(0) = 0; availableCount(0) = 0; isAvailable(0,1) = 1");
        new Run("20: The nominal channels that are available: none, locked").due(ALL_IN_5 + "availableCount(1) = 0;"
                + "usedCount(1) = 0; availableCount(0) = 2");
        new Run("20: The nominal channels that are available: borrowed ones do not count").due("startCall(5) = 0;"
                + "startCall(5) = 1; startCall(5) = 2; availableCount(5) = 0; availableCount(1) = 1");
        new Run("21: The channels that a cell uses: none").due("usedCount(5) = 0; startCall(6) = 0; usedCount(5) = 0");
        new Run("21: The channels that a cell uses: all").due(ALL_IN_5 + "usedCount(5) = 6");
        new Run("21: The channels that a cell uses: not those of the fixed scheme").due(TWO_CELLS + "usedCount(1) = 0;"
                + "usedCount(0) = 2");
        new Run("22: Locked although it does not use them: none").due("lockedCount(5) = 0; startCall(5) = 0;"
                + "lockedCount(5) = 0; lockedCount(6) = 0");
        new Run("22: Locked although it does not use them: all").due(ALL_IN_5 + "lockedCount(1) = 2; lockedCount(9) = 2");
        new Run("22: Locked although it does not use them: of a cell that uses the other one").due("startCall(5) = 0;"
                + "startCall(5) = 1; startCall(5) = 2; channelOf(2) = 5; startCall(1) = 3; lockedCount(1) = 1;"
                + "usedCount(1) = 1");
        new Run("22: Nominal channels alone: others that are locked do not count").due("startCall(5) = 0;"
                + "lockCount(6,0) = 1; lockedCount(6) = 0");
        new Run("22: lockCount() above 0: a channel locked twice counts once").due("startCall(1) = 0; startCall(0) = 1;"
                + "startCall(0) = 2; startCall(0) = 3; startCall(8) = 4; startCall(8) = 5; setStrategy(1) = 0;"
                + "startCall(8) = 6; lockCount(4,4) = 2; lockedCount(4) = 1");
    }

    private static void nextChannelAndDonor() {
        new Run("23: The channel that would be chosen: it is not given").due("nextChannel(5) = 0; nextChannel(5) = 0;"
                + "usedCount(5) = 0; attempts() = 0; startCall(5) = 0; channelOf(0) = 0");
        new Run("23: NONE if the network would block the call").due(ALL_IN_5 + "nextChannel(5) = -9; startCall(5) = -9");
        new Run("23: NONE, though the fixed scheme would accept it").due("configure(1,2,2,1) = 3; startCall(0) = 0;"
                + "startCall(0) = 1; nextChannel(1) = -9; startCall(1) = 2; channelOf(2) = -9");
        new Run("24: The donor from which a new call would borrow: 0").due("configure(1,2,2,1) = 3; startCall(1) = 0;"
                + "nextDonor(1) = 0; nextChannel(1) = 0");
        new Run("24: The donor from which a new call would borrow: the last cell").due("configure(1,2,2,1) = 3;"
                + "startCall(0) = 0; nextDonor(0) = 1; nextChannel(0) = 2");
        new Run("24: NONE if a nominal channel would be chosen").due("nextDonor(5) = -9; startCall(5) = 0;"
                + "nextDonor(5) = -9; nextChannel(5) = 3");
        new Run("24: Or the network would block the call").due(ALL_IN_5 + "nextDonor(5) = -9; nextDonor(1) = -9;"
                + "nextChannel(1) = -9");
    }

    private static void blockingCells() {
        new Run("25: The number of cells for which nextChannel() is NONE: none").due("blockingCells() = 0");
        new Run("25: The number of cells for which nextChannel() is NONE: the one cell").due("configure(1,1,2,1) = 3;"
                + "blockingCells() = 0; startCall(0) = 0; blockingCells() = 1; endCall(0) = 0; blockingCells() = 0");
        new Run("25: The number of cells for which nextChannel() is NONE: all").due("configure(1,2,2,1) = 3;"
                + "startCall(0) = 0; startCall(1) = 1; blockingCells() = 2");
        Run run = new Run("25: The number of cells for which nextChannel() is NONE: some").due(ALL_IN_5);
        for (int cell = 0; cell < 12; cell++) {
            boolean near = cell == 1 || cell == 2 || cell == 4 || cell == 5 || cell == 6 || cell == 8 || cell == 9;
            run.due("nextChannel(" + cell + ") = " + (near ? -9 : new int[] {0, 0, 0, 0, 0, 0, 0, 1, 0, 0, 0, 2}[cell]));
        }
        run.due("blockingCells() = 7");
        // With 60 calls a start is refused, but the network would not block the call.
        Run.withSixtyCalls("25: The number of cells for which nextChannel() is NONE: 60 calls")
                .due("nextChannel(15) = 0; nextChannel(24) = 0; nextChannel(0) = -9; startCall(24) = -3");
    }

    private static void countsAtFirst() {
        for (String count : new String[] {"26: callCount", "27: attempts", "28: blocked", "29: blockedInFixedScheme",
            "30: dropped", "31: droppedInFixedScheme", "32: borrowings", "33: returns"}) {
            new Run(count + " of a new object").due(count.substring(4) + "() = 0");
        }
    }

    private static void countsOfAttempts() {
        Run.withSixtyCalls("26: The number of present calls: 60").due("callCount() = 60; startCall(24) = -3;"
                + "callCount() = 60; endCall(59) = 10; callCount() = 59");
        new Run("26: Present calls: of the network alone and of the fixed scheme alone").due(TWO_CELLS + "callCount() = 3");
        new Run("26: Present calls: a dropped call that is carried by one of them").due("configure(1,2,2,1) = 3;"
                + "startCall(0) = 0; startCall(0) = 1; handOver(0,1) = -9; callCount() = 2");
        new Run("27: Also if it was blocked").due("configure(1,1,2,1) = 3; startCall(0) = 0; startCall(0) = -9;"
                + "startCall(0) = -9; attempts() = 3; callCount() = 1");
        Run.withSixtyCalls("27: A refused call is not started").due("startCall(24) = -3; startCall(25) = -1;"
                + "attempts() = 60");
        new Run("27: A call that ends stays counted").due("startCall(0) = 0; endCall(0) = 0; attempts() = 1");
        new Run("28: How many new calls the network has blocked: one that the fixed scheme accepts").due(TWO_CELLS
                + "blocked() = 1; isInFixedScheme(2) = 1");
        new Run("28: How many new calls: a handover is none").due(TWO_CELLS + "handOver(0,1) = -9; blocked() = 1");
        new Run("29: How many new calls the fixed scheme has blocked: one that the network carries").due(TWO_CELLS
                + "blockedInFixedScheme() = 1; channelOf(1) = 2");
        new Run("29: How many new calls: a handover is none").due(TWO_CELLS + "handOver(2,0) = -9;"
                + "blockedInFixedScheme() = 1");
    }

    private static void countsOfDrops() {
        new Run("30: How many calls the network has dropped: one that was not carried is not").due(TWO_CELLS
                + "handOver(2,0) = -9; dropped() = 0");
        new Run("30: How many calls the network has dropped: the same call once").due("configure(1,2,2,1) = 3;"
                + "startCall(0) = 0; startCall(0) = 1; handOver(0,1) = -9; handOver(0,0) = -9; handOver(0,1) = -9;"
                + "dropped() = 1");
        new Run("30: How many calls the network has dropped: a blocked or ended one is not").due(TWO_CELLS
                + "startCall(1) = -9; endCall(0) = 0; dropped() = 0; droppedInFixedScheme() = 0");
        new Run("31: How many calls the fixed scheme has dropped: one that was not carried is not").due(TWO_CELLS
                + "handOver(1,1) = -9; droppedInFixedScheme() = 0; dropped() = 1; cellOf(1) = -4");
        new Run("31: How many calls the fixed scheme has dropped: the same call once").due("startCall(6) = 0;"
                + "startCall(6) = 1; startCall(5) = 2; handOver(2,6) = 4; handOver(2,5) = 0; handOver(2,6) = 4;"
                + "droppedInFixedScheme() = 1; dropped() = 0");
        new Run("32: How often a channel was borrowed: for a new call").due("startCall(5) = 0; startCall(5) = 1;"
                + "borrowings() = 0; startCall(5) = 2; borrowings() = 1");
        new Run("32: How often a channel was borrowed: in a handover").due("startCall(5) = 0; startCall(5) = 1;"
                + "startCall(6) = 2; handOver(2,5) = 5; borrowings() = 1");
        new Run("32: How often: once more for the same call").due("startCall(5) = 0; startCall(5) = 1; startCall(6) = 2;"
                + "handOver(2,5) = 5; handOver(2,6) = 2; handOver(2,5) = 5; borrowings() = 2");
        new Run("32: A return is no borrowing").due(ALL_IN_5 + "borrowings() = 4; endCall(0) = 0; borrowings() = 4");
        new Run("33: How many steps all returning passes had: none").due("startCall(5) = 0; endCall(0) = 0; returns() = 0");
        // Behind the handover call 3 returns in cell 5, and then call 1 in cell 2.
        new Run("33: How many steps all returning passes had: of three operations").due(ALL_IN_5 + "endCall(0) = 0;"
                + "returns() = 1; handOver(1,2) = 5; channelOf(3) = 3; channelOf(1) = 4; returns() = 3;"
                + "setReturning(0) = 0; endCall(2) = 0; returns() = 3; setReturning(1) = 1; returns() = 4");
    }

    private static void countsBeyondAByte() {
        new Run("27, 28, 29: 400 attempts do not wrap around").due("configure(1,1,2,1) = 3; startCall(0) = 0")
                .due(400, "startCall(0) = -9").due("attempts() = 401; blocked() = 400; blockedInFixedScheme() = 400");
        new Run("30, 31: 240 drops do not wrap around").due("configure(1,2,2,1) = 3; startCall(1) = 0")
                .due(240, "startCall(0) = 1; handOver(1,1) = -9").due("dropped() = 240; droppedInFixedScheme() = 240");
        new Run("32, 33: 240 borrowings and returns do not wrap around").due("startCall(5) = 0; startCall(5) = 1;"
                + "startCall(5) = 2").due(120, "endCall(1) = 3; startCall(5) = 1; endCall(2) = 3; startCall(5) = 2")
                .due("borrowings() = 241; returns() = 240");
    }
}
