/** Promises 34 to 36: the text and the scripts. */
public final class ScriptsTest {
    public static void main(String[] args) {
        appendCharacter();
        clearText();
        scriptsThatRun();
        commandsThatAreSkipped();
        errorPositions();
        longScripts();
        textIsNotUndone();
        Run.end();
    }

    private static void appendCharacter() {
        new Run("34: range").due("appendCharacter(0) = 1; appendCharacter(255) = 2; appendCharacter(256) = -1;"
                + "appendCharacter(-1) = -1; appendCharacter(2147483647) = -1; appendCharacter(-2147483648) = -1;"
                + "appendCharacter(32) = 3; clearText() = 3");
        new Run("34: 100 characters").type("s".repeat(100)).due("appendCharacter(115) = -3; appendCharacter(256) = -1;"
                + "appendCharacter(-1) = -1; clearText() = 100; appendCharacter(115) = 1");
        new Run("34: no state is saved").type("s5;").due("undo() = -2; clearText() = 3");
    }

    private static void clearText() {
        new Run("35: clearText").due("clearText() = 0; appendCharacter(1) = 1; appendCharacter(1) = 2; clearText() = 2;"
                + "clearText() = 0; appendCharacter(1) = 1; undo() = -2");
    }

    private static void scriptsThatRun() {
        new Run("36: one of each").script("s5;h0,6;e0;", 3).due("attempts() = 1; callCount() = 0; undo() = 0;"
                + "attempts() = 0; undo() = -2");
        new Run("36: two digits").script("s11;s10;h1,11;e0;", 4).due("cellOf(1) = 11; callCount() = 1");
        new Run("36: spaces").script("  s 5 ;  h  0  , 6  ; e0 ; s 11 ;  ", 4).due("callCount() = 1; cellOf(0) = 11");
        new Run("36: example's run").script("s5;s5;s5;s5;h0,6;e1;s1;", 7).due("callCount() = 4; borrowings() = 2;"
                + "returns() = 2; channelOf(0) = 2; channelOf(2) = 0; channelOf(3) = 3; blocked() = 0");
        new Run("36: an answer NONE is executed").due("configure(1,1,2,1) = 3").script("s0;s0;s0;", 3)
                .due("callCount() = 1; attempts() = 3; blocked() = 2; undo() = 1; attempts() = 0");
        new Run("36: a handover with the answer NONE").due("configure(1,2,2,1) = 3").script("s0;s1;h0,1;e0;", 3)
                .due("dropped() = 1; callCount() = 1");
    }

    private static void commandsThatAreSkipped() {
        new Run("36: all skipped").script("e7;h0,1;s12;s99;", 0).due("callCount() = 0; attempts() = 0; undo() = 0;"
                + "undo() = -2");
        new Run("36: some skipped").script("s5;h0,5;h0,0;h0,12;e1;s12;e0;e0;", 2).due("callCount() = 0; attempts() = 1");
        Run.withSixtyCalls("36: skipped in a full network").script("s24;e59;s24;s24;", 2).due("callCount() = 60; cellOf(59) = 24");
    }

    private static void errorPositions() {
        String[] texts = {"", " ", "   ", "s", "s ", "s5", "s5 ", "s55", "s5;e", "s5;h0", "s5;h0,", "s5;h0,1", "h0 , 1 "};
        for (String text : texts) {
            new Run("36: the text ends").script(text, -10 - text.length()).due("undo() = -2");
        }
        error("x", 0);
        error("S5;", 0);
        error(";", 0);
        error("5;", 0);
        error("  x", 2);
        error("s;", 1);
        error("sx;", 1);
        error("s,", 1);
        error("ss5;", 1);
        error("s-5;", 1);
        error("s5,", 2);
        error("s5,1;", 2);
        error("e5,1;", 2);
        error("s05;", 2);
        error("s00;", 2);
        error("s555;", 3);
        error("s100;", 3);
        error("s5 5;", 3);
        error("s 5  5;", 5);
        error("s0 5;", 3);
        error("h0;", 2);
        error("h0 1;", 3);
        error("h0,;", 3);
        error("h,1;", 1);
        error("h0,,1;", 3);
        error("h00,1;", 2);
        error("h0,01;", 4);
        error("h0,111;", 5);
        error("h123,1;", 3);
        error("h0,1,2;", 4);
        error("s5;;", 3);
        error("s5; ;", 4);
        error("s5;x", 3);
        error("s5;s5;5", 6);
        error("s5;h0,1;E0;", 8);
        error("s5; e12;s05;", 10);
        error("s5\t;", 2);
        error("s5;\n", 3);
        error("s5;\u0000", 3);
        error("s5;\u00ff", 3);
        error("s5:", 2);
        error("s/;", 1);
        error("s5;f0;", 3);
    }

    private static void error(String text, int position) {
        new Run("36: error at " + position).script(text, -10 - position).due("callCount() = 0; undo() = -2");
    }

    private static void longScripts() {
        new Run("36: 33 commands").script("s0;".repeat(33), 33).due("attempts() = 33; undo() = 0");
        new Run("36: 33 commands and a space").script("e0;".repeat(33) + " ", 0).due("undo() = 0");
        new Run("36: 100 characters").script("s0;".repeat(33) + "e", -110).due("attempts() = 0; undo() = -2");
        new Run("36: 100 spaces").script(" ".repeat(100), -110);
        new Run("36: 97 spaces").script(" ".repeat(97) + "s5;", 1).due("callCount() = 1");
        new Run("36: nothing of an earlier text").script("s5;s6;", 2).script("e0;", 1).due("callCount() = 1")
                .type("s7;").due("clearText() = 3").script("s7", -12).due("callCount() = 1");
        new Run("36: run twice").script("s5;", 1).script("e0;", 1).due("runScript() = -10; callCount() = 0; undo() = 1");
    }

    private static void textIsNotUndone() {
        new Run("36: the text is no part of the state").due("startCall(5) = 0; save(0) = 1").type("e0;")
                .due("undo() = 0; callCount() = 0; restore(0) = 1; configure(1,1,2,1) = 3; clearText() = 3;"
                + "undo() = 0").type("e0;").due("runScript() = 1; undo() = 0; clearText() = 0; callCount() = 1");
    }
}
