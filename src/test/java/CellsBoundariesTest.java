/**
 * The boundaries that the sections "What it is" and "Cells and channels" of the document name. Each
 * run has the sentence for its name.
 */
public final class CellsBoundariesTest {
    public static void main(String[] args) {
        lastCall();
        rows();
        columns();
        cellNumbers();
        distances();
        neighbours();
        reuseDistance();
        groupsOfCells();
        channelsOfGroups();
        firstValues();
        available();
        Run.end();
    }

    private static void lastCall() {
        new Run("An object is used for at most 512 calls: the last one")
                .due(170, "startCall(5) = 0; handOver(0,6) = 2; endCall(0) = 2").due("attempts() = 170; undo() = 5");
        // What is answered behind them is free, but it has to be answered.
        ChannelBorrower old = new ChannelBorrower();
        for (int call = 0; call < 600; call++) {
            old.startCall(call % 12);
        }
    }

    private static void rows() {
        new Run("The network has 1 to 5 rows: the fewest").due("configure(1,4,2,2) = 6; cellCount() = 4;"
                + "startCall(3) = 0; groupOf(4) = -1");
        new Run("The network has 1 to 5 rows: the most").due("configure(5,4,2,2) = 6; cellCount() = 20;"
                + "startCall(19) = 0; groupOf(20) = -1");
        new Run("The network has 1 to 5 rows: too few").due("configure(0,4,2,2) = -1; cellCount() = 12");
        new Run("The network has 1 to 5 rows: too many").due("configure(6,4,2,2) = -1; cellCount() = 12");
    }

    private static void columns() {
        new Run("The network has 1 to 5 columns: the fewest").due("configure(3,1,2,2) = 6; cellCount() = 3;"
                + "startCall(2) = 0; groupOf(3) = -1");
        new Run("The network has 1 to 5 columns: the most").due("configure(3,5,2,2) = 6; cellCount() = 15;"
                + "startCall(14) = 0; groupOf(15) = -1");
        new Run("The network has 1 to 5 columns: too few").due("configure(3,0,2,2) = -1; cellCount() = 12");
        new Run("The network has 1 to 5 columns: too many").due("configure(3,6,2,2) = -1; cellCount() = 12");
        new Run("1 to 5 rows and 1 to 5 columns: one cell").due("configure(1,1,2,1) = 3; cellCount() = 1;"
                + "groupOf(0) = 0; distance(0,0) = 0; startCall(0) = 0; groupOf(1) = -1");
        new Run("1 to 5 rows and 1 to 5 columns: 25 cells").due("configure(5,5,2,1) = 3; cellCount() = 25;"
                + "groupOf(24) = 0; distance(0,24) = 8; startCall(24) = 0; groupOf(25) = -1");
        // Too many of one are not made good by few of the other.
        new Run("1 to 5 rows and 1 to 5 columns: in a line").due("configure(1,6,2,1) = -1; configure(6,1,2,1) = -1;"
                + "configure(25,1,2,1) = -1; configure(1,25,2,1) = -1; cellCount() = 12");
    }

    private static void cellNumbers() {
        new Run("The cell in row r and column c has the number r * columns + c: the ends of rows").due(
                "distance(3,4) = 3; distance(7,8) = 3; distance(3,7) = 1; distance(4,8) = 1; distance(2,3) = 1");
        new Run("r * columns + c: one column").due("configure(5,1,2,1) = 3; distance(0,1) = 1; distance(0,4) = 4;"
                + "groupOf(1) = 1; groupOf(4) = 1");
        new Run("r * columns + c: one row").due("configure(1,5,2,1) = 3; distance(0,1) = 1; distance(0,4) = 4;"
                + "groupOf(1) = 2; groupOf(4) = 2");
        new Run("r * columns + c: the last row and column").due("configure(5,5,2,1) = 3; distance(4,9) = 1;"
                + "distance(4,5) = 4; distance(20,24) = 4; distance(4,24) = 4; distance(19,20) = 4");
    }

    private static void distances() {
        new Run("The greatest of |dr|, |dc| and |dr + dc|: |dr|").due("distance(8,1) = 2; distance(1,8) = 2");
        new Run("The greatest of |dr|, |dc| and |dr + dc|: |dc|").due("distance(4,2) = 2; distance(2,4) = 2;"
                + "distance(4,3) = 3; distance(3,4) = 3");
        new Run("The greatest of |dr|, |dc| and |dr + dc|: |dr + dc|").due("distance(0,5) = 2; distance(5,0) = 2;"
                + "distance(0,11) = 5; distance(11,0) = 5");
        new Run("Both differences taken in the same order").due("distance(1,4) = 1; distance(4,1) = 1;"
                + "distance(3,8) = 3; distance(8,3) = 3; distance(0,10) = 4; distance(10,0) = 4");
        Run zero = new Run("The distance of a cell from itself");
        for (int cell = 0; cell < 12; cell++) {
            zero.due("distance(" + cell + "," + cell + ") = 0");
        }
    }

    private static void neighbours() {
        new Run("Two cells are neighbours if their distance is 1: it is 0").due("startCall(5) = 0;"
                + "handOver(0,5) = -1");
        for (int cell : new int[] {1, 2, 4, 6, 8, 9}) {
            new Run("Two cells are neighbours if their distance is 1: it is").due("distance(5," + cell + ") = 1;"
                    + "startCall(5) = 0").taken("handOver(0," + cell + ")").due("cellOf(0) = " + cell);
        }
        for (int cell : new int[] {0, 10, 3, 7}) {
            new Run("Two cells are neighbours if their distance is 1: it is 2").due("distance(5," + cell + ") = 2;"
                    + "startCall(5) = 0; handOver(0," + cell + ") = -1; cellOf(0) = 5");
        }
        new Run("Two cells are neighbours if their distance is 1: not over the end of a row").due("startCall(3) = 0;"
                + "handOver(0,4) = -1; startCall(8) = 1; handOver(1,7) = -1");
        new Run("Neighbours, not all cells within the reuse distance").due("configure(1,3,3,1) = 7; startCall(0) = 0;"
                + "handOver(0,2) = -1; handOver(0,1) = 3");
    }

    private static void reuseDistance() {
        new Run("The reuse distance is 2 or 3: 2, so 3 groups").due("configure(3,4,2,2) = 6; channelCount() = 6");
        new Run("The reuse distance is 2 or 3: 3, so 7 groups").due("configure(3,4,3,2) = 14; channelCount() = 14");
        new Run("The reuse distance is 2 or 3: too small").due("configure(3,4,1,2) = -1; channelCount() = 6");
        new Run("The reuse distance is 2 or 3: too large").due("configure(3,4,4,2) = -1; channelCount() = 6");
    }

    private static void groupsOfCells() {
        groups("(r + 2 * c) modulo 3", "configure(5,5,2,1) = 3", "0210210210210210210210210");
        groups("(r + 2 * c) modulo 3, in rows of 4", "configure(3,4,2,1) = 3", "021010212102");
        groups("(r + 3 * c) modulo 7", "configure(5,5,3,1) = 7", "0362514036251403625140362");
        groups("(r + 3 * c) modulo 7, in rows of 2", "configure(5,2,3,1) = 7", "0314253640");
    }

    private static void groups(String sentence, String network, String groups) {
        Run run = new Run("The group of a cell is " + sentence).due(network);
        for (int cell = 0; cell < groups.length(); cell++) {
            run.due("groupOf(" + cell + ") = " + groups.charAt(cell));
        }
    }

    private static void channelsOfGroups() {
        new Run("The number of channels of a group is 1 to 4: the fewest").due("configure(1,1,2,1) = 3;"
                + "availableCount(0) = 1");
        new Run("The number of channels of a group is 1 to 4: the most").due("configure(1,1,2,4) = 12;"
                + "availableCount(0) = 4");
        new Run("The number of channels of a group is 1 to 4: too few").due("configure(1,1,2,0) = -1;"
                + "channelCount() = 6");
        new Run("The number of channels of a group is 1 to 4: too many").due("configure(1,1,2,5) = -1;"
                + "channelCount() = 6");
        for (int size = 1; size <= 4; size++) {
            lastChannel(2, size, 3 * size);
            lastChannel(3, size, 7 * size);
        }
        new Run("The group of a channel is its number modulo the number of groups: 3").due("configure(5,5,2,4) = 12;"
                + "startCall(24) = 0; startCall(24) = 1; startCall(24) = 2; startCall(24) = 3; channelOf(0) = 0;"
                + "channelOf(1) = 3; channelOf(2) = 6; channelOf(3) = 9; usedCount(24) = 4; availableCount(24) = 0");
        new Run("The group of a channel is its number modulo the number of groups: 7").due("configure(5,5,3,4) = 28;"
                + "startCall(24) = 0; startCall(24) = 1; startCall(24) = 2; startCall(24) = 3; channelOf(0) = 2;"
                + "channelOf(1) = 9; channelOf(2) = 16; channelOf(3) = 23; usedCount(24) = 4; availableCount(24) = 0");
    }

    private static void lastChannel(int reuse, int size, int channels) {
        new Run("The channels are numbered from 0 to groups * (channels of a group) - 1").due("configure(2,2," + reuse
                + "," + size + ") = " + channels + "; channelCount() = " + channels + "; isAvailable(3,-1) = -1;"
                + "isAvailable(3,0) = 1; isAvailable(3," + (channels - 1) + ") = 1; isAvailable(3," + channels + ") = -1");
    }

    private static void firstValues() {
        new Run("At first there are 3 rows").due("cellCount() = 12; distance(0,8) = 2; groupOf(8) = 2; groupOf(12) = -1");
        new Run("At first there are 4 columns").due("cellCount() = 12; distance(0,3) = 3; distance(0,4) = 1");
        new Run("At first the reuse distance is 2").due("startCall(1) = 0; channelOf(0) = 2; isAvailable(0,2) = 0;"
                + "isAvailable(3,2) = 1; groupOf(1) = 2");
        new Run("At first there are 2 channels in each group").due("channelCount() = 6; availableCount(0) = 2;"
                + "isAvailable(0,5) = 1; isAvailable(0,6) = -1");
    }

    private static void available() {
        String two = "configure(1,4,2,1) = 3; startCall(0) = 0; channelOf(0) = 0;";
        String three = "configure(1,4,3,1) = 7; startCall(0) = 0; channelOf(0) = 0;";
        new Run("Available if neither this cell uses it").due(two + "isAvailable(0,0) = 0; lockCount(0,0) = 0");
        new Run("Nor any other cell with a distance less than the reuse distance: 1 of 2").due(two
                + "isAvailable(1,0) = 0; lockCount(1,0) = 1");
        new Run("Nor any other cell with a distance less than the reuse distance: 2 of 2").due(two
                + "isAvailable(2,0) = 1; lockCount(2,0) = 0");
        new Run("Nor any other cell with a distance less than the reuse distance: 2 of 3").due(three
                + "isAvailable(1,0) = 0; isAvailable(2,0) = 0; lockCount(2,0) = 1");
        new Run("Nor any other cell with a distance less than the reuse distance: 3 of 3").due(three
                + "isAvailable(3,0) = 1; lockCount(3,0) = 0");
        new Run("Available again as soon as no call has it").due(two + "endCall(0) = 0; isAvailable(0,0) = 1;"
                + "isAvailable(1,0) = 1");
        new Run("A call that is carried by the fixed scheme alone uses no channel").due("configure(1,2,2,1) = 3;"
                + "startCall(0) = 0; startCall(0) = 1; startCall(1) = 2; channelOf(2) = -9; usedCount(1) = 0;"
                + "endCall(0) = 0; endCall(1) = 0; cellOf(2) = 1; isAvailable(1,2) = 1; isAvailable(0,2) = 1");
    }
}
