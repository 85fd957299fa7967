/** Promises 26 to 33: the counts since the network was made. */
public final class CountsTest {
    public static void main(String[] args) {
        callCount();
        attemptsAndBlocked();
        dropped();
        borrowings();
        returns();
        Run.end();
    }

    private static void callCount() {
        new Run("26: callCount").due("callCount() = 0; startCall(0) = 0; startCall(0) = 1; callCount() = 2;"
                + "startCall(12) = -1; callCount() = 2; endCall(0) = 0; callCount() = 1; endCall(0) = -4;"
                + "callCount() = 1; undo() = 2; callCount() = 2");
        new Run("26: carried by one of them").due("configure(1,2,2,1) = 3; startCall(0) = 0; startCall(0) = 1;"
                + "callCount() = 2; startCall(1) = 2; callCount() = 3; startCall(1) = -9; callCount() = 3;"
                + "handOver(2,0) = -9; callCount() = 2");
    }

    private static void attemptsAndBlocked() {
        new Run("27, 28, 29: blocked").due("configure(1,1,2,2) = 6; startCall(0) = 0; startCall(0) = 1; attempts() = 2;"
                + "blocked() = 0; blockedInFixedScheme() = 0; startCall(0) = -9; startCall(0) = -9; attempts() = 4;"
                + "blocked() = 2; blockedInFixedScheme() = 2; startCall(1) = -1; attempts() = 4; blocked() = 2;"
                + "endCall(0) = 0; attempts() = 4; blocked() = 2; startCall(0) = 0; attempts() = 5; blocked() = 2;"
                + "blockedInFixedScheme() = 2");
        new Run("28, 29: one of them").due("configure(1,2,2,1) = 3; startCall(0) = 0; startCall(0) = 1; blocked() = 0;"
                + "blockedInFixedScheme() = 1; startCall(1) = 2; blocked() = 1; blockedInFixedScheme() = 1;"
                + "attempts() = 3");
        new Run("27: in scripts").script("s0;s0;s99;e0;h1,1;", 4).due("attempts() = 2; callCount() = 1; undo() = 0;"
                + "attempts() = 0");
    }

    private static void dropped() {
        new Run("30, 31: dropped").due("configure(1,2,2,1) = 3; startCall(0) = 0; startCall(1) = 1; dropped() = 0;"
                + "handOver(0,1) = -9; dropped() = 1; droppedInFixedScheme() = 1; startCall(0) = 0; startCall(0) = -9;"
                + "handOver(1,0) = -9; dropped() = 2; droppedInFixedScheme() = 2; blocked() = 1; attempts() = 4;"
                + "handOver(0,0) = -1; dropped() = 2; endCall(0) = 0; dropped() = 2; droppedInFixedScheme() = 2");
        // A call that was not carried is not dropped.
        new Run("30, 31: not carried before").due("configure(1,2,2,1) = 3; startCall(0) = 0; startCall(0) = 1;"
                + "handOver(0,1) = -9; dropped() = 1; handOver(0,0) = -9; handOver(0,1) = -9; dropped() = 1;"
                + "droppedInFixedScheme() = 0; handOver(1,1) = 2; droppedInFixedScheme() = 0; dropped() = 1;"
                + "isInFixedScheme(1) = 0");
    }

    private static void borrowings() {
        new Run("32: new calls and handovers").due("startCall(5) = 0; startCall(5) = 1; borrowings() = 0;"
                + "startCall(5) = 2; borrowings() = 1; startCall(6) = 3; handOver(3,5) = 4; borrowings() = 2;"
                + "handOver(3,6) = 2; borrowings() = 2; setReserve(2) = 0; startCall(5) = -9; borrowings() = 2;"
                + "endCall(0) = 0; borrowings() = 2; returns() = 1");
        new Run("32: nextChannel() does not borrow").due("startCall(5) = 0; startCall(5) = 1; nextChannel(5) = 5;"
                + "nextDonor(5) = 1; borrowings() = 0");
    }

    private static void returns() {
        new Run("33: all passes").due("startCall(5) = 0; startCall(5) = 1; startCall(5) = 2; startCall(5) = 3;"
                + "returns() = 0; endCall(0) = 0; returns() = 1; handOver(1,4) = 1; returns() = 2; setReturning(0) = 0;"
                + "startCall(5) = 0; endCall(2) = 0; returns() = 2; setReturning(1) = 1; returns() = 3;"
                + "undo() = 5; returns() = 2");
    }
}
