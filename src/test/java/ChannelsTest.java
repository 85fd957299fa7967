/** Promises 17 to 25: what is asked about channels in cells. */
public final class ChannelsTest {
    // Cell 5 has the channels 0, 3 and 5, the last one borrowed from cell 1.
    private static final String THREE_IN_5 = "startCall(5) = 0; startCall(5) = 1; startCall(5) = 2;";

    public static void main(String[] args) {
        isAvailable();
        lockCount();
        burden();
        counts();
        nextChannelAndDonor();
        blockingCells();
        wrongCellsAndChannels();
        Run.end();
    }

    private static void isAvailable() {
        new Run("17: used, locked and free").due(THREE_IN_5 + "isAvailable(5,0) = 0; isAvailable(5,1) = 1;"
                + "isAvailable(1,5) = 0; isAvailable(1,2) = 1; isAvailable(0,0) = 1; isAvailable(4,0) = 0;"
                + "isAvailable(11,5) = 1; isAvailable(10,3) = 1; isAvailable(9,3) = 0; endCall(2) = 5;"
                + "isAvailable(1,5) = 1");
        new Run("17: reuse distance 3").due("configure(3,3,3,1) = 7; startCall(0) = 0; isAvailable(4,0) = 0;"
                + "isAvailable(2,0) = 0; isAvailable(5,0) = 1; isAvailable(6,0) = 0; isAvailable(8,0) = 1");
    }

    private static void lockCount() {
        new Run("18: locking cells").due("startCall(0) = 0; lockCount(0,0) = 0; lockCount(1,0) = 1; lockCount(4,0) = 1;"
                + "lockCount(5,0) = 0; startCall(5) = 1; lockCount(1,0) = 2; lockCount(4,0) = 2; lockCount(6,0) = 1;"
                + "lockCount(6,3) = 0; lockCount(5,0) = 0; startCall(3) = 2; lockCount(2,0) = 2; lockCount(6,0) = 2;"
                + "endCall(0) = 0; lockCount(1,0) = 1");
    }

    private static void burden() {
        new Run("19: reuse distance 2").due("burden(5,5) = 3; burden(5,1) = 3; burden(5,0) = 0; burden(8,1) = 2;"
                + "burden(8,4) = 2; burden(8,0) = 1; burden(8,2) = 0; burden(0,1) = 1; burden(3,0) = 0; burden(3,4) = 2;"
                + "burden(3,2) = 1; startCall(5) = 0; burden(5,5) = 3");
        new Run("19: reuse distance 3").due("configure(3,3,3,1) = 7; burden(4,1) = 2; burden(4,4) = 0; burden(4,0) = 2;"
                + "burden(0,5) = 0; burden(0,3) = 1; configure(5,5,3,2) = 14; burden(12,8) = 0; burden(12,0) = 3;"
                + "burden(12,13) = 3; burden(0,8) = 1");
        new Run("19: one cell").due("configure(1,1,2,1) = 3; burden(0,0) = 0; burden(0,1) = 0; burden(0,2) = 0");
    }

    private static void counts() {
        new Run("20: availableCount").due("availableCount(5) = 2; " + THREE_IN_5 + "availableCount(5) = 0;"
                + "availableCount(1) = 1; availableCount(6) = 1; availableCount(4) = 2; availableCount(0) = 2;"
                + "availableCount(11) = 2");
        new Run("21: usedCount").due("usedCount(5) = 0; " + THREE_IN_5 + "usedCount(5) = 3; usedCount(1) = 0;"
                + "endCall(0) = 0; usedCount(5) = 2; handOver(1,4) = 1; usedCount(5) = 1; usedCount(4) = 1");
        new Run("21: not in the network").due("configure(1,2,2,1) = 3; startCall(0) = 0; startCall(0) = 1;"
                + "startCall(1) = 2; usedCount(0) = 2; usedCount(1) = 0");
        new Run("22: lockedCount").due("lockedCount(1) = 0; " + THREE_IN_5 + "lockedCount(1) = 1; lockedCount(6) = 1;"
                + "lockedCount(8) = 1; lockedCount(5) = 0; lockedCount(4) = 0; lockedCount(2) = 0; lockedCount(11) = 0;"
                + "startCall(5) = 3; startCall(5) = 4; startCall(5) = 5; lockedCount(1) = 2; lockedCount(4) = 2;"
                + "lockedCount(5) = 0; lockedCount(10) = 0");
        // Channel 4 of cell 4 is used there by nobody, but twice around it.
        new Run("22: a channel locked twice").due("startCall(1) = 0; startCall(0) = 1; startCall(0) = 2;"
                + "startCall(0) = 3; startCall(8) = 4; startCall(8) = 5; setStrategy(1) = 0; startCall(8) = 6;"
                + "channelOf(6) = 4; channelOf(3) = 4; lockCount(4,4) = 2; lockedCount(4) = 1");
    }

    private static void nextChannelAndDonor() {
        new Run("23: nominal").due("nextChannel(5) = 0; nextDonor(5) = -9; startCall(5) = 0; nextChannel(5) = 3;"
                + "nextDonor(5) = -9; endCall(0) = 0; nextChannel(5) = 0; attempts() = 1");
        new Run("24: richest donor").due("startCall(5) = 0; startCall(5) = 1; nextDonor(5) = 1; nextChannel(5) = 5;"
                + "startCall(1) = 2; nextDonor(5) = 2; nextChannel(5) = 4; startCall(2) = 3; nextDonor(5) = 4;"
                + "startCall(4) = 4; nextDonor(5) = 6; startCall(6) = 5; nextDonor(5) = 8; startCall(8) = 6;"
                + "nextDonor(5) = 9; startCall(9) = 7; nextDonor(5) = 1; nextChannel(5) = 5");
        new Run("24: no donor").due("configure(1,1,2,1) = 3; nextDonor(0) = -9; nextChannel(0) = 0; startCall(0) = 0;"
                + "nextDonor(0) = -9; nextChannel(0) = -9");
        // Donor 0 has both of its channels available, but cell 5 locks them in cell 1.
        new Run("24: a donor without an offer").due("startCall(5) = 0; startCall(5) = 1; startCall(1) = 2;"
                + "startCall(1) = 3; availableCount(0) = 2; isAvailable(1,0) = 0; isAvailable(1,3) = 0;"
                + "setStrategy(1) = 0; nextDonor(1) = 2; nextChannel(1) = 4");
        // Of equal burdens the lowest donor; but donor 6 with the burden 1 before donor 3 with 2.
        new Run("24: least burden").due("configure(3,3,3,1) = 7; setStrategy(2) = 0; startCall(4) = 0;"
                + "nextDonor(4) = 1; nextChannel(4) = 3; setStrategy(0) = 2; startCall(1) = 1; nextDonor(4) = 2;"
                + "burden(4,6) = 1; burden(4,1) = 2; setStrategy(2) = 0; nextDonor(4) = 2;"
                + "startCall(2) = 2; nextDonor(4) = 6; nextChannel(4) = 2; setStrategy(1) = 2; nextDonor(4) = 3;"
                + "nextChannel(4) = 1");
    }

    private static void blockingCells() {
        new Run("25: none, some, all").due("blockingCells() = 0; " + THREE_IN_5 + "blockingCells() = 0;"
                + "startCall(5) = 3; startCall(5) = 4; startCall(5) = 5; blockingCells() = 7; nextChannel(0) = 0;"
                + "nextChannel(4) = -9; nextChannel(3) = 0");
        new Run("25: reserve").due("startCall(5) = 0; startCall(5) = 1; setReserve(2) = 0; blockingCells() = 1;"
                + "setReserve(1) = 2; blockingCells() = 0");
        new Run("25: every cell").due("configure(1,2,2,1) = 3; startCall(0) = 0; startCall(1) = 1; blockingCells() = 2;"
                + "endCall(1) = 2; blockingCells() = 0");
    }

    private static void wrongCellsAndChannels() {
        String[] cells = {"12", "-1", "25", "2147483647", "-2147483648"};
        String[] channels = {"6", "-1", "28", "2147483647", "-2147483648"};
        Run run = new Run("17 to 24: no such cell or channel");
        for (String cell : cells) {
            for (String name : new String[] {"availableCount", "usedCount", "lockedCount", "nextChannel", "nextDonor"}) {
                run.due(name + "(" + cell + ") = -1");
            }
            for (String name : new String[] {"isAvailable", "lockCount", "burden"}) {
                run.due(name + "(" + cell + ",0) = -1");
            }
        }
        for (String channel : channels) {
            for (String name : new String[] {"isAvailable", "lockCount", "burden"}) {
                run.due(name + "(0," + channel + ") = -1");
            }
        }
        run.due("isAvailable(11,5) = 1; lockCount(11,5) = 0; burden(11,5) = 0; availableCount(11) = 2;"
                + "configure(5,5,3,4) = 28; isAvailable(24,27) = 1; isAvailable(24,28) = -1; isAvailable(25,27) = -1;"
                + "burden(24,27) = 1; nextChannel(24) = 2");
    }
}
