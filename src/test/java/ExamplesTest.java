/** The five examples of the document, call by call. */
public final class ExamplesTest {
    public static void main(String[] args) {
        new Run("example 1").due("startCall(5) = 0; startCall(5) = 1; startCall(5) = 2; channelOf(2) = 5;"
                + "isBorrowed(2) = 1; isInFixedScheme(2) = 0; endCall(0) = 0; channelOf(2) = 0;"
                + "returns() = 1");
        new Run("example 2").due("startCall(5) = 0; startCall(5) = 1; nextChannel(5) = 5; nextDonor(5) = 1;"
                + "setReserve(2) = 0; nextChannel(5) = -9; blockingCells() = 1");
        new Run("example 3").due("appendCharacter(115) = 1; appendCharacter(53) = 2; appendCharacter(59) = 3;"
                + "appendCharacter(115) = 4; appendCharacter(53) = 5; appendCharacter(59) = 6;"
                + "appendCharacter(101) = 7; appendCharacter(48) = 8; appendCharacter(59) = 9;"
                + "runScript() = 3; callCount() = 1; borrowings() = 0; returns() = 0; undo() = 0;"
                + "callCount() = 0");
        new Run("example 4").due("appendCharacter(115) = 1; appendCharacter(53) = 2; appendCharacter(59) = 3;"
                + "appendCharacter(115) = 4; appendCharacter(48) = 5; appendCharacter(53) = 6;"
                + "appendCharacter(59) = 7; runScript() = -15; clearText() = 7; endCall(0) = -4;"
                + "handOver(0,1) = -4; startCall(12) = -1");
        new Run("example 5").due("configure(1,2,2,1) = 3; startCall(0) = 0; startCall(0) = 1;"
                + "handOver(0,1) = -9; channelOf(0) = -9; callCount() = 2; blockedInFixedScheme() = 1");
        Run.end();
    }
}
