/** Promises 1 to 9: a new object, its settings and its cells. */
public final class ConfigurationTest {
    public static void main(String[] args) {
        newObject();
        configureAnswersTheChannels();
        configureRefusesWhatIsOutOfRange();
        configureMakesANewNetwork();
        configureKeepsTheSettings();
        setStrategy();
        setReserve();
        setReturning();
        sizes();
        groupOf();
        distance();
        Run.end();
    }

    private static void newObject() {
        new Run("1: first values").due("cellCount() = 12; channelCount() = 6; distance(3, 4) = 3;"
                + "setStrategy(0) = 0; setReserve(0) = 0");
        new Run("1: no calls").due("callCount() = 0; attempts() = 0; blocked() = 0; blockedInFixedScheme() = 0;"
                + "dropped() = 0; droppedInFixedScheme() = 0; borrowings() = 0; returns() = 0;"
                + "cellOf(0) = -4; blockingCells() = 0");
        new Run("1: nothing kept").due("clearText() = 0; undo() = -2; restore(0) = -2; restore(1) = -2;"
                + "runScript() = -10");
        new Run("1: returning is on").due("startCall(5) = 0; startCall(5) = 1; startCall(5) = 2; endCall(1) = 3;"
                + "channelOf(2) = 3; returns() = 1");
    }

    private static void configureAnswersTheChannels() {
        new Run("2: channels").due("configure(1,1,2,1) = 3; configure(5,5,2,4) = 12; configure(5,5,3,4) = 28;"
                + "configure(1,5,3,1) = 7; configure(5,1,3,2) = 14; cellCount() = 5; channelCount() = 14");
    }

    private static void configureRefusesWhatIsOutOfRange() {
        new Run("2: out of range").due("startCall(5) = 0;"
                + "configure(0,4,2,2) = -1; configure(6,4,2,2) = -1; configure(3,0,2,2) = -1;"
                + "configure(3,6,2,2) = -1; configure(3,4,1,2) = -1; configure(3,4,4,2) = -1;"
                + "configure(3,4,2,0) = -1; configure(3,4,2,5) = -1; configure(-1,-1,-1,-1) = -1;"
                + "configure(2147483647,2147483647,2,2) = -1; configure(-2147483648,4,2,2) = -1;"
                + "configure(3,-2147483648,2,2) = -1; configure(3,4,2,2147483647) = -1;"
                + "callCount() = 1; cellCount() = 12; channelCount() = 6; undo() = 0; undo() = -2");
    }

    private static void configureMakesANewNetwork() {
        new Run("2: all counts are 0").due("configure(1,2,2,1) = 3; startCall(0) = 0; startCall(0) = 1;"
                + "startCall(0) = -9; startCall(1) = 2; handOver(1,1) = -9; handOver(2,0) = -9; attempts() = 4;"
                + "configure(1,2,2,1) = 3; callCount() = 0; attempts() = 0; blocked() = 0;"
                + "blockedInFixedScheme() = 0; dropped() = 0; droppedInFixedScheme() = 0; borrowings() = 0;"
                + "returns() = 0; cellOf(0) = -4; usedCount(0) = 0; usedCount(1) = 0; startCall(0) = 0;"
                + "channelOf(0) = 0; isInFixedScheme(0) = 1");
        new Run("2: returns are 0 too").due("startCall(5) = 0; startCall(5) = 1; startCall(5) = 2; endCall(0) = 0;"
                + "borrowings() = 1; returns() = 1; configure(3,4,2,2) = 6; borrowings() = 0; returns() = 0");
    }

    private static void configureKeepsTheSettings() {
        new Run("2: settings stay").due("setStrategy(2) = 0; setReserve(3) = 0; setReturning(0) = 0;"
                + "configure(3,4,2,2) = 6; setStrategy(1) = 2; setReserve(0) = 3;"
                + "startCall(5) = 0; startCall(5) = 1; startCall(5) = 2; endCall(0) = 0; isBorrowed(2) = 1;"
                + "returns() = 0");
        new Run("2: saves the state").due("startCall(5) = 0; configure(2,2,3,4) = 28; undo() = 1; cellCount() = 12;"
                + "channelCount() = 6; callCount() = 1; channelOf(0) = 0; groupOf(11) = 2");
    }

    private static void setStrategy() {
        new Run("3: previous strategy").due("setStrategy(2) = 0; setStrategy(1) = 2; setStrategy(0) = 1;"
                + "setStrategy(0) = 0");
        new Run("3: out of range").due("setStrategy(1) = 0; setStrategy(3) = -1; setStrategy(-1) = -1;"
                + "setStrategy(2147483647) = -1; setStrategy(-2147483648) = -1; undo() = 0; setStrategy(0) = 0");
        new Run("3: the same strategy is saved too").due("setStrategy(0) = 0; undo() = 0");
        // In cell 8 the donor 9 is the richest, 4 is the first, and 5 has the channels of least burden.
        new Run("3: what the strategies choose").due("startCall(8) = 0; startCall(8) = 1; startCall(4) = 2;"
                + "startCall(5) = 3; burden(8,4) = 2; burden(8,3) = 1; nextDonor(8) = 9; nextChannel(8) = 4;"
                + "setStrategy(1) = 0; nextDonor(8) = 4; nextChannel(8) = 4;"
                + "setStrategy(2) = 1; nextDonor(8) = 5; nextChannel(8) = 3;"
                + "setStrategy(0) = 2; nextDonor(8) = 9; startCall(8) = 4; channelOf(4) = 4");
    }

    private static void setReserve() {
        new Run("4: previous reserve").due("setReserve(3) = 0; setReserve(1) = 3; setReserve(2) = 1; setReserve(0) = 2");
        new Run("4: out of range").due("setReserve(2) = 0; setReserve(4) = -1; setReserve(-1) = -1;"
                + "setReserve(2147483647) = -1; setReserve(-2147483648) = -1; undo() = 0; setReserve(0) = 0");
        // A donor lends while it has more nominal channels available than the reserve.
        new Run("4: what is reserved").due("configure(1,2,2,4) = 12; setReserve(3) = 0; startCall(0) = 0;"
                + "startCall(0) = 1; startCall(0) = 2; startCall(0) = 3; nextChannel(0) = 11; startCall(0) = 4;"
                + "availableCount(1) = 3; nextChannel(0) = -9; setReserve(2) = 3; nextChannel(0) = 8;"
                + "startCall(0) = 5; nextChannel(0) = -9; setReserve(1) = 2; startCall(0) = 6; nextDonor(0) = -9;"
                + "setReserve(0) = 1; nextDonor(0) = 1; startCall(0) = 7; channelOf(7) = 2; startCall(0) = -9");
    }

    private static void setReturning() {
        new Run("5: off and on").due("setReturning(0) = 0; startCall(5) = 0; startCall(5) = 1; startCall(5) = 2;"
                + "startCall(5) = 3; endCall(0) = 0; endCall(1) = 3; isBorrowed(2) = 1; isBorrowed(3) = 1;"
                + "setReturning(0) = 0; isBorrowed(2) = 1; setReturning(1) = 2; channelOf(2) = 0; channelOf(3) = 3;"
                + "returns() = 2; setReturning(1) = 0; returns() = 2");
        new Run("5: out of range").due("setReturning(2) = -1; setReturning(-1) = -1; setReturning(2147483647) = -1;"
                + "setReturning(-2147483648) = -1; undo() = -2");
        new Run("5: undone").due("setReturning(0) = 0; undo() = 0; startCall(5) = 0; startCall(5) = 1;"
                + "startCall(5) = 2; endCall(0) = 0; isBorrowed(2) = 0");
        // The greatest burden returns first: call 4 has 2, the calls 2 and 3 have 1.
        new Run("5: the order of a pass").due("setStrategy(2) = 0; startCall(8) = 0; startCall(8) = 1;"
                + "startCall(8) = 2; startCall(8) = 3; startCall(8) = 4; channelOf(2) = 3; channelOf(3) = 0;"
                + "channelOf(4) = 4; endCall(0) = 2; channelOf(4) = 2; isBorrowed(2) = 1; isBorrowed(3) = 1;"
                + "endCall(1) = 5; channelOf(2) = 5; isBorrowed(3) = 1; returns() = 2");
        // The step of call 2 frees the channel to which call 4 returns in a second step.
        new Run("5: a step that makes a step").due("startCall(5) = 0; startCall(5) = 1; startCall(5) = 2;"
                + "startCall(1) = 3; startCall(1) = 4; channelOf(2) = 5; channelOf(4) = 4; setReturning(0) = 0;"
                + "endCall(0) = 0; setReturning(1) = 2; channelOf(2) = 0; channelOf(4) = 5; returns() = 2");
    }

    private static void sizes() {
        new Run("6, 7: sizes").due("cellCount() = 12; channelCount() = 6; configure(5,4,3,3) = 21; cellCount() = 20;"
                + "channelCount() = 21; configure(5,5,2,1) = 3; cellCount() = 25; channelCount() = 3;"
                + "configure(1,1,3,4) = 28; cellCount() = 1; channelCount() = 28; undo() = 2; cellCount() = 25;"
                + "channelCount() = 3");
    }

    private static void groupOf() {
        new Run("8: reuse distance 2").due("groupOf(0) = 0; groupOf(1) = 2; groupOf(2) = 1; groupOf(3) = 0;"
                + "groupOf(4) = 1; groupOf(5) = 0; groupOf(6) = 2; groupOf(7) = 1; groupOf(8) = 2; groupOf(9) = 1;"
                + "groupOf(10) = 0; groupOf(11) = 2");
        new Run("8: reuse distance 3").due("configure(5,5,3,1) = 7; groupOf(0) = 0; groupOf(1) = 3; groupOf(2) = 6;"
                + "groupOf(3) = 2; groupOf(4) = 5; groupOf(5) = 1; groupOf(6) = 4; groupOf(20) = 4; groupOf(23) = 6;"
                + "groupOf(24) = 2");
        new Run("8: no such cell").due("groupOf(12) = -1; groupOf(-1) = -1; groupOf(2147483647) = -1;"
                + "groupOf(-2147483648) = -1; configure(5,5,2,1) = 3; groupOf(24) = 0; groupOf(25) = -1;"
                + "configure(1,1,2,1) = 3; groupOf(0) = 0; groupOf(1) = -1");
    }

    private static void distance() {
        new Run("9: distances").due("distance(5,5) = 0; distance(0,1) = 1; distance(0,4) = 1; distance(0,5) = 2;"
                + "distance(5,0) = 2; distance(1,4) = 1; distance(4,1) = 1; distance(3,8) = 3; distance(0,11) = 5;"
                + "distance(11,0) = 5; distance(0,3) = 3; distance(3,0) = 3; distance(0,8) = 2; distance(2,8) = 2");
        new Run("9: no such cell").due("distance(0,12) = -1; distance(12,0) = -1; distance(-1,0) = -1;"
                + "distance(0,-1) = -1; distance(12,12) = -1; distance(2147483647,0) = -1;"
                + "distance(0,-2147483648) = -1; configure(5,5,3,1) = 7; distance(0,24) = 8; distance(4,20) = 4;"
                + "distance(25,0) = -1");
    }
}
