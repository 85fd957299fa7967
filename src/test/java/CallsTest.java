/** Promises 10 to 16: starting, ending and handing over calls, and what is asked about them. */
public final class CallsTest {
    public static void main(String[] args) {
        startCall();
        startCallBlocked();
        startCallFull();
        endCall();
        handOver();
        handOverWhileTheOldChannelIsUsed();
        handOverBeforeTheReturningPass();
        handOverInTheFixedScheme();
        handOverErrors();
        whatIsAskedAboutCalls();
        Run.end();
    }

    private static void startCall() {
        new Run("10: nominal, then borrowed").due("startCall(5) = 0; channelOf(0) = 0; startCall(5) = 1;"
                + "channelOf(1) = 3; startCall(5) = 2; channelOf(2) = 5; startCall(5) = 3; channelOf(3) = 4;"
                + "borrowings() = 2; attempts() = 4; blocked() = 0; blockedInFixedScheme() = 2; callCount() = 4");
        new Run("10: lowest number").due("startCall(0) = 0; startCall(1) = 1; startCall(2) = 2; endCall(1) = 2;"
                + "endCall(0) = 0; startCall(3) = 0; startCall(4) = 1; startCall(5) = 3; cellOf(0) = 3; cellOf(1) = 4");
        new Run("10: no such cell").due("startCall(12) = -1; startCall(-1) = -1; startCall(2147483647) = -1;"
                + "startCall(-2147483648) = -1; attempts() = 0; undo() = -2; startCall(11) = 0");
        // Channel 4 is available in cell 8, though not in the donor 4.
        new Run("10: need not be available in the donor").due("startCall(1) = 0; startCall(0) = 1; startCall(0) = 2;"
                + "startCall(0) = 3; channelOf(3) = 4; startCall(8) = 4; startCall(8) = 5; setStrategy(1) = 0;"
                + "isAvailable(4,4) = 0; availableCount(4) = 1; isAvailable(8,4) = 1; nextDonor(8) = 4;"
                + "startCall(8) = 6; channelOf(6) = 4; isBorrowed(6) = 1");
    }

    private static void startCallBlocked() {
        new Run("10: blocked by both").due("configure(1,1,2,1) = 3; startCall(0) = 0; startCall(0) = -9;"
                + "callCount() = 1; attempts() = 2; blocked() = 1; blockedInFixedScheme() = 1; cellOf(1) = -4;"
                + "undo() = 2; attempts() = 1; blocked() = 0");
        new Run("10: blocked by the network alone").due("configure(1,2,2,1) = 3; startCall(0) = 0; startCall(0) = 1;"
                + "startCall(1) = 2; channelOf(2) = -9; isInFixedScheme(2) = 1; isBorrowed(2) = 0; blocked() = 1;"
                + "callCount() = 3; startCall(1) = -9; blocked() = 2; blockedInFixedScheme() = 2; usedCount(1) = 0");
    }

    private static void startCallFull() {
        Run run = Run.withSixtyCalls("10: 60 calls");
        run.due("callCount() = 60; startCall(24) = -3; startCall(25) = -1; startCall(-1) = -1; attempts() = 60;"
                + "endCall(59) = 10; undo() = 5; endCall(30) = 8; startCall(24) = 30; startCall(24) = -3;"
                + "undo() = 5; callCount() = 59; cellOf(30) = -4; cellOf(59) = 14");
        run.script("s24;s24;e0;s24;", 3).due("callCount() = 60; cellOf(0) = 24; attempts() = 62");
    }

    private static void endCall() {
        new Run("11: channels").due("startCall(5) = 0; startCall(5) = 1; startCall(5) = 2; endCall(1) = 3;"
                + "channelOf(2) = 3; endCall(2) = 3; endCall(0) = 0; callCount() = 0; usedCount(5) = 0;"
                + "isAvailable(5,0) = 1; returns() = 1; attempts() = 3");
        new Run("11: not in the network").due("configure(1,2,2,1) = 3; startCall(0) = 0; startCall(0) = 1;"
                + "startCall(1) = 2; endCall(2) = -9; callCount() = 2; startCall(1) = 2; isInFixedScheme(2) = 1");
        // Cell 1 has no channel left; what its call did not have is not taken from another one.
        new Run("11: takes no channel along").due("configure(1,2,3,4) = 28; startCall(0) = 0; startCall(0) = 1;"
                + "startCall(0) = 2; startCall(0) = 3; startCall(0) = 4; startCall(0) = 5; startCall(0) = 6;"
                + "startCall(0) = 7; startCall(1) = 8; channelOf(8) = -9; usedCount(0) = 8; endCall(8) = -9;"
                + "usedCount(0) = 8; usedCount(1) = 0; callCount() = 8");
        new Run("11: leaves the fixed scheme").due("configure(1,1,2,1) = 3; startCall(0) = 0; endCall(0) = 0;"
                + "startCall(0) = 0; isInFixedScheme(0) = 1; blockedInFixedScheme() = 0");
        new Run("11: returning off").due("setReturning(0) = 0; startCall(5) = 0; startCall(5) = 1; startCall(5) = 2;"
                + "endCall(0) = 0; channelOf(2) = 5; returns() = 0");
        new Run("11: another cell returns").due("startCall(5) = 0; startCall(5) = 1; startCall(5) = 2;"
                + "startCall(1) = 3; startCall(1) = 4; channelOf(4) = 4; endCall(2) = 5; channelOf(4) = 5;"
                + "isBorrowed(4) = 0; returns() = 1");
        new Run("11: no such call").due("endCall(0) = -4; startCall(0) = 0; endCall(1) = -4; endCall(-1) = -4;"
                + "endCall(59) = -4; endCall(60) = -4; endCall(2147483647) = -4; endCall(-2147483648) = -4;"
                + "endCall(-9) = -4; callCount() = 1; endCall(0) = 0; endCall(0) = -4; undo() = 1; undo() = 0");
    }

    private static void handOver() {
        new Run("12: to a nominal channel").due("startCall(5) = 0; handOver(0,6) = 2; cellOf(0) = 6; channelOf(0) = 2;"
                + "isInFixedScheme(0) = 1; usedCount(5) = 0; usedCount(6) = 1; borrowings() = 0; dropped() = 0;"
                + "droppedInFixedScheme() = 0; attempts() = 1; undo() = 1; cellOf(0) = 5; channelOf(0) = 0");
        new Run("12: to a borrowed channel").due("startCall(5) = 0; startCall(5) = 1; startCall(6) = 2;"
                + "handOver(2,5) = 5; isBorrowed(2) = 1; borrowings() = 1; isInFixedScheme(2) = 0;"
                + "droppedInFixedScheme() = 1; dropped() = 0; handOver(2,6) = 2; isBorrowed(2) = 0; borrowings() = 1;"
                + "isInFixedScheme(2) = 0; droppedInFixedScheme() = 1");
        new Run("12: the freed channel is returned to").due("startCall(5) = 0; startCall(5) = 1; startCall(5) = 2;"
                + "handOver(0,4) = 1; channelOf(2) = 0; returns() = 1");
        new Run("12: returning off").due("setReturning(0) = 0; startCall(5) = 0; startCall(5) = 1; startCall(5) = 2;"
                + "handOver(0,4) = 1; channelOf(2) = 5; returns() = 0");
    }

    private static void handOverWhileTheOldChannelIsUsed() {
        // Cell 1 could borrow channel 0 if the call did not use it any more.
        new Run("12: dropped by both").due("configure(1,2,2,1) = 3; startCall(0) = 0; startCall(1) = 1;"
                + "handOver(0,1) = -9; callCount() = 1; cellOf(0) = -4; dropped() = 1; droppedInFixedScheme() = 1;"
                + "usedCount(0) = 0; nextChannel(1) = 0; undo() = 3; callCount() = 2; channelOf(0) = 0; dropped() = 0");
        new Run("12: dropped by the network alone").due("configure(1,2,2,1) = 3; startCall(0) = 0; startCall(0) = 1;"
                + "handOver(0,1) = -9; cellOf(0) = 1; channelOf(0) = -9; isInFixedScheme(0) = 1; dropped() = 1;"
                + "droppedInFixedScheme() = 0; handOver(0,0) = -9; dropped() = 1; cellOf(0) = 0; channelOf(0) = -9;"
                + "isInFixedScheme(0) = 1");
    }

    private static void handOverBeforeTheReturningPass() {
        // The call itself locks channel 5 in cell 1, and returns to it when it is there.
        new Run("12: the channel before the pass").due("startCall(5) = 0; startCall(5) = 1; startCall(5) = 2;"
                + "startCall(1) = 3; channelOf(2) = 5; handOver(2,1) = 4; channelOf(2) = 5; isBorrowed(2) = 0;"
                + "borrowings() = 2; returns() = 1; isInFixedScheme(2) = 0");
    }

    private static void handOverInTheFixedScheme() {
        // Call 1 is blocked in the fixed scheme, and stays outside it where there is room.
        new Run("12: the network alone").due("configure(1,3,2,1) = 3; startCall(0) = 0; startCall(0) = 1;"
                + "isInFixedScheme(1) = 0; channelOf(1) = 2; startCall(2) = 2; endCall(0) = 0; channelOf(1) = 0;"
                + "handOver(1,1) = 2; isInFixedScheme(1) = 0; droppedInFixedScheme() = 0");
        // In cell 1 call 2 is in the fixed scheme alone; it finds cell 0 full there, and is gone.
        new Run("12: the fixed scheme alone").due("configure(1,2,2,1) = 3; startCall(0) = 0; startCall(0) = 1;"
                + "startCall(1) = 2; channelOf(2) = -9; handOver(2,0) = -9; callCount() = 2; cellOf(2) = -4;"
                + "dropped() = 0; droppedInFixedScheme() = 1; blocked() = 1");
        new Run("12: leaves the old cell").due("configure(1,2,2,1) = 3; startCall(0) = 0; handOver(0,1) = 2;"
                + "startCall(0) = 1; isInFixedScheme(1) = 1; isInFixedScheme(0) = 1; startCall(1) = -9;"
                + "blockedInFixedScheme() = 1; blocked() = 1");
    }

    private static void handOverErrors() {
        new Run("12: no such call").due("handOver(0,0) = -4; startCall(5) = 0; handOver(1,4) = -4; handOver(-1,4) = -4;"
                + "handOver(60,4) = -4; handOver(2147483647,-1) = -4; handOver(-2147483648,99) = -4");
        new Run("12: no such cell").due("startCall(11) = 0; handOver(0,12) = -1; handOver(0,-1) = -1;"
                + "handOver(0,2147483647) = -1; handOver(0,-2147483648) = -1; undo() = 0; undo() = -2");
        new Run("12: no neighbour").due("startCall(5) = 0; handOver(0,5) = -1; handOver(0,0) = -1; handOver(0,10) = -1;"
                + "handOver(0,3) = -1; handOver(0,7) = -1; cellOf(0) = 5; channelOf(0) = 0; undo() = 0; callCount() = 0");
        for (int neighbour : new int[] {1, 2, 4, 6, 8, 9}) {
            int group = neighbour == 1 || neighbour == 6 || neighbour == 8 ? 2 : 1;
            new Run("12: neighbour").due("startCall(5) = 0; handOver(0," + neighbour + ") = " + group
                    + "; cellOf(0) = " + neighbour);
        }
    }

    private static void whatIsAskedAboutCalls() {
        String calls = "configure(1,2,2,1) = 3; startCall(0) = 0; startCall(0) = 1; startCall(1) = 2;";
        new Run("13: cellOf").due(calls + "cellOf(0) = 0; cellOf(1) = 0; cellOf(2) = 1; cellOf(3) = -4; cellOf(-1) = -4;"
                + "cellOf(60) = -4; cellOf(2147483647) = -4; cellOf(-2147483648) = -4");
        new Run("14: channelOf").due(calls + "channelOf(0) = 0; channelOf(1) = 2; channelOf(2) = -9; channelOf(3) = -4;"
                + "channelOf(-1) = -4; channelOf(60) = -4; channelOf(2147483647) = -4; channelOf(-2147483648) = -4");
        new Run("15: isBorrowed").due(calls + "isBorrowed(0) = 0; isBorrowed(1) = 1; isBorrowed(2) = 0;"
                + "isBorrowed(3) = -4; isBorrowed(-1) = -4; isBorrowed(60) = -4; isBorrowed(2147483647) = -4;"
                + "isBorrowed(-2147483648) = -4");
        new Run("16: isInFixedScheme").due(calls + "isInFixedScheme(0) = 1; isInFixedScheme(1) = 0;"
                + "isInFixedScheme(2) = 1; isInFixedScheme(3) = -4; isInFixedScheme(-1) = -4; isInFixedScheme(60) = -4;"
                + "isInFixedScheme(2147483647) = -4; isInFixedScheme(-2147483648) = -4");
    }
}
