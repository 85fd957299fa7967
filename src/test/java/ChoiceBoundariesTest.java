/**
 * The boundaries that the section "Choice of a channel" of the document names. Each run has the
 * sentence for its name.
 */
public final class ChoiceBoundariesTest {
    // Cell 5 has no nominal channel left, and all of its six neighbours could lend.
    private static final String CELL_5_FULL = "startCall(5) = 0; startCall(5) = 1; availableCount(5) = 0;";
    // Cell 0 of two cells has no nominal channel left; those of cell 1 are 2, 5, 8 and 11.
    private static final String TWO_CELLS = "configure(1,2,2,4) = 12; startCall(0) = 0; startCall(0) = 1;"
            + "startCall(0) = 2; startCall(0) = 3;";
    // In cell 8 the donors 4 and 9 offer channels of burden 2, and the donor 5 some of burden 1.
    private static final String CELL_8_FULL = "startCall(8) = 0; startCall(8) = 1; burden(8,1) = 2; burden(8,4) = 2;"
            + "burden(8,0) = 1; burden(8,3) = 1;";

    // A call in cell 5 is to be handed over to cell 6, which has no nominal channel left.
    private static final String CELL_6_FULL = "startCall(6) = 0; startCall(6) = 1; startCall(5) = 2; channelOf(2) = 0;";

    public static void main(String[] args) {
        nominalChannels();
        offers();
        offersInAHandover();
        reserve();
        noOffers();
        richestDonor();
        firstDonor();
        leastBurden();
        burden();
        lowestDonorAndGreatestChannel();
        firstStrategyAndReserve();
        Run.end();
    }

    private static void nominalChannels() {
        new Run("The one with the lowest number is chosen: of all").due("nextChannel(5) = 0; startCall(5) = 0;"
                + "channelOf(0) = 0");
        new Run("The one with the lowest number is chosen: the last one").due("startCall(5) = 0; nextChannel(5) = 3;"
                + "startCall(5) = 1; channelOf(1) = 3");
        new Run("The one with the lowest number is chosen: one that was given back").due(CELL_5_FULL
                + "endCall(0) = 0; nextChannel(5) = 0");
        new Run("If nominal channels are available: the lower one is locked").due("startCall(5) = 0; startCall(5) = 1;"
                + "startCall(5) = 2; startCall(5) = 3; startCall(5) = 4; channelOf(2) = 5; channelOf(4) = 2;"
                + "endCall(2) = 5; isAvailable(1,2) = 0; isAvailable(1,5) = 1; nextChannel(1) = 5; nextDonor(1) = -9");
        new Run("If nominal channels are available: no borrowing, though the donors are richer").due("startCall(5) = 0;"
                + "availableCount(5) = 1; availableCount(1) = 2; nextChannel(5) = 3; nextDonor(5) = -9;"
                + "startCall(5) = 1; borrowings() = 0");
        new Run("Otherwise a channel is borrowed: all nominal ones are used").due(CELL_5_FULL + "nextDonor(5) = 1;"
                + "startCall(5) = 2; isBorrowed(2) = 1; borrowings() = 1");
        // The one nominal channel of cell 1 is used in cell 0, to which it was lent.
        new Run("Otherwise a channel is borrowed: all nominal ones are locked").due("configure(1,3,2,1) = 3;"
                + "startCall(0) = 0; startCall(0) = 1; channelOf(1) = 2; usedCount(1) = 0; lockedCount(1) = 1;"
                + "nextChannel(1) = 1; nextDonor(1) = 2; startCall(1) = 2; isBorrowed(2) = 1");
    }

    private static void offers() {
        new Run("An offer is a pair of a neighbour: a cell at distance 2 lends nothing").due("configure(1,3,3,1) = 7;"
                + "startCall(0) = 0; startCall(0) = 1; channelOf(1) = 3; isAvailable(0,6) = 1; availableCount(2) = 1;"
                + "nextChannel(0) = -9; nextDonor(0) = -9");
        new Run("And a nominal channel of the donor: not one of no cell around").due("configure(1,2,3,1) = 7;"
                + "startCall(0) = 0; startCall(0) = 1; channelOf(1) = 3; isAvailable(0,1) = 1; isAvailable(0,6) = 1;"
                + "nextChannel(0) = -9");
        new Run("That is available in the cell where the call is: no channel of the donor is").due("startCall(5) = 0;"
                + "startCall(5) = 1; startCall(1) = 2; startCall(1) = 3; availableCount(0) = 2; isAvailable(1,0) = 0;"
                + "isAvailable(1,3) = 0; setStrategy(1) = 0; nextDonor(1) = 2; nextChannel(1) = 4");
        new Run("That is available in the cell where the call is: the greater one is not").due(CELL_5_FULL
                + "startCall(1) = 2; endCall(2) = 2; startCall(2) = 2; startCall(2) = 3; startCall(2) = 4;"
                + "channelOf(4) = 5; setStrategy(1) = 0; isAvailable(5,5) = 0; isAvailable(5,2) = 1;"
                + "availableCount(1) = 1; nextDonor(5) = 1; nextChannel(5) = 2");
        new Run("A channel that is available in the cell need not be available in the donor").due("startCall(1) = 0;"
                + "startCall(0) = 1; startCall(0) = 2; startCall(0) = 3; channelOf(3) = 4; startCall(8) = 4;"
                + "startCall(8) = 5; setStrategy(1) = 0; isAvailable(4,4) = 0; availableCount(4) = 1;"
                + "isAvailable(8,4) = 1; nextDonor(8) = 4; nextChannel(8) = 4");
    }

    private static void offersInAHandover() {
        // Cell 7 is near the new cell alone, cell 4 near the old one alone; both use the channels 1 and 4.
        new Run("In a handover: a channel that is available in the old cell alone is no offer").due(CELL_6_FULL
                + "startCall(7) = 3; startCall(7) = 4; isAvailable(5,4) = 1; isAvailable(6,4) = 0; nextDonor(6) = 3;"
                + "handOver(2,6) = 3; isBorrowed(2) = 1; borrowings() = 1");
        new Run("In a handover: a channel that is available in the new cell alone is an offer").due(CELL_6_FULL
                + "startCall(4) = 3; startCall(4) = 4; isAvailable(5,4) = 0; isAvailable(6,4) = 1; nextDonor(6) = 2;"
                + "handOver(2,6) = 4; isBorrowed(2) = 1; borrowings() = 1");
        new Run("In a handover: the donor is a neighbour of the new cell").due(CELL_6_FULL
                + "startCall(7) = 3; startCall(7) = 4; distance(5,3) = 2; distance(6,3) = 1; handOver(2,6) = 3;"
                + "channelOf(2) = 3; cellOf(2) = 6");
        // Both channels of the group of cell 5 are in use there, so its own ones are no offer to the new cell.
        new Run("In a handover: a channel in use in the old cell is no offer").due(CELL_6_FULL
                + "startCall(5) = 3; startCall(7) = 4; startCall(7) = 5; nextChannel(6) = -9; handOver(2,6) = -9;"
                + "dropped() = 1; endCall(3) = 3; nextChannel(6) = 3");
    }

    private static void reserve() {
        reserve(0, "startCall(1) = 4; startCall(1) = 5; startCall(1) = 6;", 7);
        reserve(1, "startCall(1) = 4; startCall(1) = 5;", 6);
        reserve(2, "startCall(1) = 4;", 5);
        reserve(3, "", 4);
        // The channel is available in cell 0, but the donor itself has none available.
        new Run("More are available in the donor than the reserve says: none, and the reserve is 0").due(
                "configure(1,3,2,1) = 3; startCall(2) = 0; startCall(2) = 1; startCall(0) = 2; channelOf(1) = 2;"
                + "isAvailable(0,2) = 1; availableCount(1) = 0; nextChannel(0) = -9; nextDonor(0) = -9;"
                + "startCall(0) = -9");
        new Run("The reserve does not keep a cell from its own channels").due("setReserve(3) = 0; startCall(5) = 0;"
                + "startCall(5) = 1; channelOf(1) = 3; blocked() = 0; startCall(5) = -9; blocked() = 1");
    }

    private static void reserve(int reserve, String calls, int next) {
        String sentence = "More are available in the donor than the reserve says: the reserve is " + reserve;
        new Run(sentence + ", and one more is").due(TWO_CELLS + "setReserve(" + reserve + ") = 0;" + calls
                + "availableCount(1) = " + (reserve + 1) + "; nextDonor(0) = 1; nextChannel(0) = 11");
        new Run(sentence + ", and as many are").due(TWO_CELLS + "setReserve(" + reserve + ") = 0;" + calls
                + "startCall(1) = " + next + "; availableCount(1) = " + reserve + "; nextDonor(0) = -9;"
                + "nextChannel(0) = -9");
    }

    private static void noOffers() {
        new Run("If there are no offers, no channel is chosen: no neighbours").due("configure(1,1,2,1) = 3;"
                + "startCall(0) = 0; isAvailable(0,1) = 1; nextChannel(0) = -9; nextDonor(0) = -9; startCall(0) = -9");
        new Run("If there are no offers, no channel is chosen: all channels are used").due(CELL_5_FULL
                + "startCall(5) = 2; startCall(5) = 3; startCall(5) = 4; startCall(5) = 5; usedCount(5) = 6;"
                + "nextChannel(5) = -9; nextDonor(5) = -9; startCall(5) = -9; blocked() = 1; borrowings() = 4");
        for (int strategy = 0; strategy <= 2; strategy++) {
            new Run("If there are no offers, no channel is chosen: strategy " + strategy).due("configure(1,2,2,1) = 3;"
                    + "startCall(0) = 0; startCall(1) = 1").taken("setStrategy(" + strategy + ")")
                    .due("nextChannel(0) = -9; nextDonor(0) = -9; blockingCells() = 2");
        }
    }

    private static void richestDonor() {
        new Run("Strategy 0: the donor in which the most of its nominal channels are available").due(CELL_5_FULL
                + "startCall(1) = 2; availableCount(1) = 1; availableCount(2) = 2; nextDonor(5) = 2; nextChannel(5) = 4");
        new Run("Strategy 0: the last donor is the richest").due(CELL_5_FULL + "startCall(1) = 2; startCall(2) = 3;"
                + "startCall(4) = 4; startCall(6) = 5; startCall(8) = 6; availableCount(8) = 1; availableCount(9) = 2;"
                + "nextDonor(5) = 9; nextChannel(5) = 4");
        // Donor 1 has two channels that cell 5 could use, but only one of them is available in cell 1 itself.
        new Run("Strategy 0: what is available in the donor counts, not in the cell").due("startCall(0) = 0;"
                + "startCall(0) = 1; startCall(0) = 2; channelOf(2) = 5; startCall(5) = 3; startCall(5) = 4;"
                + "isAvailable(5,2) = 1; isAvailable(5,5) = 1; availableCount(1) = 1; availableCount(2) = 2;"
                + "nextDonor(5) = 2; nextChannel(5) = 4");
        new Run("Strategy 0: burden does not matter").due(CELL_8_FULL + "nextDonor(8) = 4; nextChannel(8) = 4");
    }

    private static void firstDonor() {
        new Run("Strategy 1: no preference").due(CELL_5_FULL + "startCall(1) = 2; setStrategy(1) = 0;"
                + "availableCount(1) = 1; availableCount(2) = 2; nextDonor(5) = 1; nextChannel(5) = 5");
        new Run("Strategy 1: burden does not matter").due(CELL_8_FULL + "setStrategy(1) = 0; nextDonor(8) = 4;"
                + "nextChannel(8) = 4");
        new Run("Strategy 1: the first donor has no offer").due(CELL_5_FULL + "startCall(1) = 2; startCall(1) = 3;"
                + "setStrategy(1) = 0; nextDonor(5) = 2; nextChannel(5) = 4");
    }

    private static void leastBurden() {
        new Run("Strategy 2: the offer with the lowest burden").due(CELL_8_FULL + "setStrategy(2) = 0;"
                + "nextDonor(8) = 5; nextChannel(8) = 3");
        new Run("Strategy 2: a poorer donor with a lower burden").due(CELL_8_FULL + "startCall(5) = 2;"
                + "availableCount(5) = 1; availableCount(4) = 2; setStrategy(2) = 0; nextDonor(8) = 5;"
                + "nextChannel(8) = 3");
        new Run("Strategy 2: the reserve counts all the same").due(CELL_8_FULL + "startCall(5) = 2; setReserve(1) = 0;"
                + "setStrategy(2) = 0; nextDonor(8) = 4; nextChannel(8) = 4");
    }

    private static void burden() {
        new Run("A distance of at least 1: the cell itself does not count").due("burden(5,0) = 0; burden(5,3) = 0;"
                + "configure(1,1,2,1) = 3; burden(0,0) = 0; configure(5,5,3,1) = 7; burden(12,1) = 0");
        new Run("A distance of at least 1: 1").due("configure(1,2,2,4) = 12; burden(0,2) = 1; burden(0,11) = 1;"
                + "burden(1,0) = 1; burden(1,9) = 1");
        new Run("And less than the reuse distance: 2 of 2").due("configure(1,3,2,1) = 3; burden(0,2) = 1;"
                + "burden(0,1) = 0; burden(1,1) = 1");
        new Run("And less than the reuse distance: 2 of 3").due("configure(1,3,3,1) = 7; burden(0,3) = 1;"
                + "burden(0,6) = 1; burden(1,6) = 1");
        // Cell 7 is in row 1 and column 2, with the group 0 and the distance 3 from cell 0.
        new Run("And less than the reuse distance: 3 of 3").due("configure(5,5,3,1) = 7; groupOf(7) = 0;"
                + "distance(0,7) = 3; burden(0,0) = 0; burden(7,0) = 0;"
                + "configure(1,4,3,1) = 7; groupOf(3) = 2; burden(0,2) = 0; burden(1,2) = 1");
        new Run("The number of cells for which the channel is nominal: none").due("configure(1,2,3,1) = 7;"
                + "burden(0,1) = 0; burden(0,6) = 0; burden(1,3) = 0");
        new Run("The number of cells for which the channel is nominal: as many as there can be").due("burden(5,1) = 3;"
                + "burden(5,5) = 3; configure(5,5,3,1) = 7; burden(12,0) = 3; burden(12,6) = 3");
        new Run("Burden does not depend on the calls").due(CELL_5_FULL + "burden(5,5) = 3; burden(1,0) = 2;"
                + "startCall(5) = 2; startCall(1) = 3; burden(5,5) = 3; burden(1,0) = 2");
    }

    private static void lowestDonorAndGreatestChannel() {
        new Run("Those with the lowest donor number remain: equally rich").due(CELL_5_FULL + "availableCount(1) = 2;"
                + "availableCount(9) = 2; nextDonor(5) = 1");
        new Run("Those with the lowest donor number remain: two of equal burden").due(CELL_8_FULL + "setStrategy(2) = 0;"
                + "startCall(5) = 2; startCall(5) = 3; nextDonor(8) = 4; availableCount(9) = 2; availableCount(4) = 2");
        new Run("And of these the one with the greatest channel number").due(TWO_CELLS + "nextChannel(0) = 11;"
                + "startCall(0) = 4; nextChannel(0) = 8; startCall(0) = 5; nextChannel(0) = 5; startCall(0) = 6;"
                + "nextChannel(0) = 2; startCall(0) = 7; nextChannel(0) = -9");
        new Run("The greatest channel number of the lowest donor, not of all").due("configure(2,1,3,4) = 28;"
                + "startCall(1) = 0; startCall(1) = 1; startCall(1) = 2; startCall(1) = 3; nextDonor(1) = 0;"
                + "nextChannel(1) = 21; configure(1,3,2,1) = 3; startCall(1) = 0; nextDonor(1) = 0; nextChannel(1) = 0");
    }

    private static void firstStrategyAndReserve() {
        new Run("The strategy is 0 at first").due(CELL_5_FULL + "startCall(1) = 2; nextDonor(5) = 2; setStrategy(0) = 0");
        new Run("The reserve is at first 0").due(TWO_CELLS + "startCall(1) = 4; startCall(1) = 5; startCall(1) = 6;"
                + "nextChannel(0) = 11; setReserve(0) = 0");
        new Run("The reserve is 0 to 3: too small").due("setReserve(-1) = -1; setReserve(0) = 0");
        new Run("The reserve is 0 to 3: too large").due("setReserve(4) = -1; setReserve(0) = 0");
        new Run("The reserve is 0 to 3: the least").due("setReserve(2) = 0; setReserve(0) = 2; setReserve(1) = 0");
        new Run("The reserve is 0 to 3: the most").due("setReserve(3) = 0; setReserve(1) = 3");
    }
}
