/**
 * The boundaries that the section "Scripts" of the document and the promises 34 to 36 name. Each run
 * has the sentence for its name.
 */
public final class ScriptsBoundariesTest {
    public static void main(String[] args) {
        hundredCharacters();
        appendCharacter();
        clearText();
        commands();
        numbers();
        spaces();
        otherSigns();
        leftToRight();
        theTextEnds();
        skipped();
        executed();
        afterwards();
        Run.end();
    }

    private static void error(String sentence, String text, int position) {
        new Run(sentence).due("startCall(0) = 0").script(text, -10 - position).due("callCount() = 1; attempts() = 1;"
                + "undo() = 0; undo() = -2");
    }

    private static void hundredCharacters() {
        new Run("A text of at most 100 characters: the last one").type("x".repeat(99)).due("appendCharacter(120) = 100;"
                + "clearText() = 100");
        new Run("A text of at most 100 characters: one more").type("x".repeat(100)).due("appendCharacter(120) = -3;"
                + "appendCharacter(120) = -3; clearText() = 100");
        new Run("A text of at most 100 characters: a script of 100").script("s5 ;" + "s5;".repeat(32), 33)
                .due("attempts() = 33; callCount() = 6");
        new Run("A text of at most 100 characters: the last one closes a command").script(" ".repeat(97) + "s5;", 1)
                .due("callCount() = 1");
        new Run("A text of at most 100 characters: room again in an empty one").script("s5 ;" + "s5;".repeat(32), 33)
                .due("appendCharacter(115) = 1");
    }

    private static void appendCharacter() {
        new Run("Character code, 0 to 255: the least").due("appendCharacter(0) = 1; clearText() = 1");
        new Run("Character code, 0 to 255: the greatest").due("appendCharacter(255) = 1; clearText() = 1");
        new Run("Character code, 0 to 255: too small").due("appendCharacter(-1) = -1; clearText() = 0");
        new Run("Character code, 0 to 255: too large").due("appendCharacter(256) = -1; clearText() = 0");
        new Run("Character code, 0 to 255: the ends of int").due("appendCharacter(2147483647) = -1;"
                + "appendCharacter(-2147483648) = -1; clearText() = 0");
        // 371 is 115 with 256 more, and -141 with 256 less.
        new Run("Character code, 0 to 255: it does not wrap around").due("appendCharacter(371) = -1;"
                + "appendCharacter(-141) = -1; appendCharacter(65651) = -1; clearText() = 0");
        new Run("34: The new length of the text: of an empty one").due("appendCharacter(65) = 1");
    }

    private static void clearText() {
        new Run("35: The previous length: of an empty text").due("clearText() = 0; clearText() = 0");
        new Run("35: The previous length: of one character").due("appendCharacter(32) = 1; clearText() = 1;"
                + "clearText() = 0");
        new Run("35: The previous length: of a full text").type("s".repeat(100)).due("clearText() = 100;"
                + "clearText() = 0; appendCharacter(115) = 1");
        new Run("35: Makes the text empty: nothing of it is read again").type("s5;s5;").due("clearText() = 6")
                .script("s", -11).due("callCount() = 0");
    }

    private static void commands() {
        new Run("One or more commands: one").script("s5;", 1).due("callCount() = 1");
        new Run("One or more commands: as many as 100 characters hold").script("s5;".repeat(33), 33)
                .due("attempts() = 33");
        error("One or more commands: none", "", 0);
        error("One or more commands: spaces alone", "   ", 3);
        error("One or more commands: a full text of spaces", " ".repeat(100), 100);
        new Run("\"s\" starts a call").script("s6;", 1).due("cellOf(0) = 6; attempts() = 1");
        new Run("\"e\" ends a call").due("startCall(6) = 0").script("e0;", 1).due("callCount() = 0");
        new Run("\"h\" hands a call over").due("startCall(6) = 0; startCall(6) = 1").script("h1,5;", 1)
                .due("cellOf(1) = 5; cellOf(0) = 6");
        error("No other letter begins a command: behind s", "t5;", 0);
        error("No other letter begins a command: before s", "r5;", 0);
        error("No other letter begins a command: around e and h", "d0;", 0);
        error("No other letter begins a command: f", "f0;", 0);
        error("No other letter begins a command: g", "g0,1;", 0);
        error("No other letter begins a command: i", "i0,1;", 0);
        error("No other letter begins a command: a great one", "S5;", 0);
        error("No other letter begins a command: a great one of e", "E0;", 0);
        error("No other letter begins a command: a great one of h", "H0,1;", 0);
        error("A command ends with a semicolon: another letter", "s5s5;", 2);
        error("A command ends with a semicolon: a comma", "s5,", 2);
        error("A command ends with a semicolon: a colon", "s5:", 2);
        error("A command ends with one semicolon", "s5;;", 3);
        error("\"s\" has one number", "s5,6;", 2);
        error("\"e\" has one number", "e0,6;", 2);
        error("\"h\" has two numbers: one", "h0;", 2);
        error("\"h\" has two numbers: three", "h0,1,2;", 4);
        error("\"h\" has a comma between them", "h0 1;", 3);
        error("\"h\" has a number before the comma", "h,1;", 1);
        error("\"h\" has a number behind the comma", "h0,;", 3);
        error("\"h\" has one comma", "h0,,1;", 3);
    }

    private static void numbers() {
        new Run("One or two digits: the least of one").script("s0;", 1).due("cellOf(0) = 0");
        new Run("One or two digits: the greatest of one").script("s9;", 1).due("cellOf(0) = 9");
        new Run("One or two digits: the least of two").script("s10;", 1).due("cellOf(0) = 10");
        new Run("One or two digits: two").due("configure(5,5,2,1) = 3").script("s24;", 1).due("cellOf(0) = 24");
        new Run("One or two digits: the greatest of two").script("s99;e99;h99,99;", 0).due("undo() = 0");
        new Run("One or two digits: the call and the cell of a handover").due("configure(5,5,2,1) = 3")
                .script("s19;h0,24;", 2).due("cellOf(0) = 24");
        Run.withSixtyCalls("One or two digits: a call with two").script("e59;h58,19;", 2)
                .due("cellOf(59) = -4; cellOf(58) = 19");
        error("One or two digits: none", "s;", 1);
        error("One or two digits: three", "s100;", 3);
        error("One or two digits: three, of a call", "e100;", 3);
        error("One or two digits: three, of a handover's call", "h100,1;", 3);
        error("One or two digits: three, of a handover's cell", "h0,100;", 5);
        error("They do not begin with 0 if they have two", "s05;", 2);
        error("They do not begin with 0 if they have two: 00", "s00;", 2);
        error("They do not begin with 0 if they have two: of a call", "e01;", 2);
        error("They do not begin with 0 if they have two: of a handover's call", "h01,1;", 2);
        error("They do not begin with 0 if they have two: of a handover's cell", "h0,01;", 4);
        error("They have no sign: minus", "s-1;", 1);
        error("They have no sign: plus", "s+1;", 1);
        error("Digits are 0 to 9: the sign before 0", "s/;", 1);
        error("Digits are 0 to 9: the sign behind 9", "s1:;", 2);
        error("Digits are 0 to 9: a letter", "sa;", 1);
    }

    private static void spaces() {
        new Run("Spaces are allowed between the letter and the number").script("s 5;", 1).due("cellOf(0) = 5");
        new Run("Spaces are allowed between the number and the semicolon").script("s5 ;", 1).due("cellOf(0) = 5");
        new Run("Spaces are allowed between two commands").script("s5; s6;", 2).due("cellOf(1) = 6");
        new Run("Spaces are allowed before the comma").script("s5;h0 ,6;", 2).due("cellOf(0) = 6");
        new Run("Spaces are allowed behind the comma").script("s5;h0, 6;", 2).due("cellOf(0) = 6");
        new Run("Spaces are allowed before the first command").script(" s5;", 1).due("cellOf(0) = 5");
        new Run("Spaces are allowed behind the last command").script("s5; ", 1).due("cellOf(0) = 5");
        new Run("Spaces are allowed: several at each place").script("  s  5  ;  h  0  ,  6  ;  e  0  ;  ", 3)
                .due("callCount() = 0; attempts() = 1");
        new Run("Spaces are allowed: none").script("s5;h0,6;e0;", 3).due("callCount() = 0; attempts() = 1");
        error("But not inside a number", "s1 1;", 3);
        error("But not inside a number: behind 0", "s0 5;", 3);
        error("But not inside a number: several", "s1   1;", 5);
        error("But not inside a number: of a handover's cell", "h0,1 1;", 5);
        error("Spaces (code 32): a tab is none", "s\t5;", 1);
        error("Spaces (code 32): the end of a line is none", "s5;\n", 3);
        error("Spaces (code 32): code 160 is none", "s5\u00a0;", 2);
        error("Spaces (code 32): code 0 is none", "\u0000s5;", 0);
        error("Spaces (code 32): code 31 is none", "\u001fs5;", 0);
        error("Spaces (code 32): code 33 is none", "s5!;", 2);
    }

    private static void otherSigns() {
        for (int code = 0; code <= 255; code++) {
            if (code != 's' && code != 'e' && code != 'h' && code != ' ') {
                new Run("No other character begins a command").due("appendCharacter(" + code + ") = 1;"
                        + "runScript() = -10; clearText() = 1");
            }
        }
    }

    private static void leftToRight() {
        error("The first character that is not allowed: the first of all", "x", 0);
        error("The first character that is not allowed: behind spaces", "  x", 2);
        error("The first character that is not allowed: of two", "s05;x", 2);
        error("The first character that is not allowed: behind a command", "s5;x", 3);
        error("The first character that is not allowed: the last of 100", "s5;".repeat(33) + "x", 99);
        error("The first character that is not allowed: not that of the text's end", "s5;h0;", 5);
        error("A third digit of a number is not allowed", "s111;", 3);
        error("A digit behind a 0 is not allowed", "s01;", 2);
    }

    private static void theTextEnds() {
        error("If the text has no command", "", 0);
        error("If the text has no command: a space", " ", 1);
        String script = "h11,10;";
        for (int length = 1; length < script.length(); length++) {
            error("If the text ends inside a command: behind " + length, script.substring(0, length), length);
        }
        error("If the text ends inside a command: behind a space", "s5 ", 3);
        error("If the text ends inside a command: a second one", "s5;e", 4);
        error("If the text ends inside a command: behind 0", "s0", 2);
        error("If the text ends inside a command: 100 characters", "s5;".repeat(33) + "e", 100);
    }

    private static void skipped() {
        new Run("Whose method would return an error code is skipped: s, no such cell").script("s12;s5;", 1)
                .due("attempts() = 1");
        Run.withSixtyCalls("Whose method would return an error code is skipped: s, 60 calls")
                .script("s20;e3;s20;s20;", 2).due("callCount() = 60; cellOf(3) = 20; attempts() = 61");
        new Run("Whose method would return an error code is skipped: e, no such call").script("s5;e1;", 1)
                .due("callCount() = 1");
        new Run("Whose method would return an error code is skipped: e, a call that has ended").script("s5;e0;e0;", 2)
                .due("callCount() = 0");
        new Run("Whose method would return an error code is skipped: h, no such call").script("s5;h1,6;", 1)
                .due("cellOf(0) = 5");
        new Run("Whose method would return an error code is skipped: h, no such cell").script("s11;h0,12;", 1)
                .due("cellOf(0) = 11");
        new Run("Whose method would return an error code is skipped: h, no neighbour").script("s5;h0,5;h0,0;", 1)
                .due("cellOf(0) = 5; channelOf(0) = 0");
        new Run("NONE is no error: a start that both block is executed").due("configure(1,1,2,1) = 3")
                .script("s0;s0;", 2).due("attempts() = 2; blocked() = 1; blockedInFixedScheme() = 1");
        new Run("NONE is no error: a handover that drops the call is executed").due("configure(1,2,2,1) = 3")
                .script("s0;s1;h0,1;", 3).due("dropped() = 1; callCount() = 1");
        new Run("NONE is no error: an end without a channel is executed").due("configure(1,2,2,1) = 3")
                .script("s0;s0;s1;e2;", 4).due("callCount() = 2; blocked() = 1");
    }

    private static void executed() {
        new Run("The number of commands that were executed: none").script("e0;s12;h0,1;", 0).due("attempts() = 0");
        new Run("The number of commands that were executed: all").script("s5;s6;e0;h1,5;", 4).due("cellOf(1) = 5");
        new Run("Executes its commands in order").script("s5;e0;s6;e0;s7;", 5).due("callCount() = 1; cellOf(0) = 7");
        new Run("As endCall(), with a returning pass").script("s5;s5;s5;e0;", 4).due("channelOf(2) = 0; returns() = 1");
        new Run("As handOver(), with a returning pass").script("s5;s5;s5;h0,4;", 4).due("channelOf(2) = 0;"
                + "returns() = 1; cellOf(0) = 4");
    }

    private static void afterwards() {
        new Run("If the text is a script, it is empty afterwards").type("s5;").due("runScript() = 1; clearText() = 0;"
                + "runScript() = -10; callCount() = 1");
        new Run("Even if all commands were skipped").type("e0;").due("runScript() = 0; clearText() = 0");
        new Run("If the text is not a script, nothing changes: not even by the commands before").due("startCall(5) = 0")
                .script("e0;s5;x", -16).due("callCount() = 1; attempts() = 1; undo() = 0; callCount() = 0; undo() = -2");
        new Run("And the text is kept: it can be read again").type("s5").due("runScript() = -12; runScript() = -12;"
                + "appendCharacter(59) = 3; runScript() = 1; callCount() = 1; clearText() = 0");
        new Run("-10 minus the error position: the first").type("x").due("runScript() = -10");
        new Run("-10 minus the error position: the last character").type("s5;".repeat(33) + "x").due("runScript() = -109");
        new Run("-10 minus the error position: behind the last character").type("s5;".repeat(33) + "s")
                .due("runScript() = -110");
        new Run("A script saves the state once").script("s5;s6;s7;", 3).due("undo() = 0; callCount() = 0; undo() = -2");
        new Run("A script saves the state, even if all commands were skipped").script("e0;", 0).due("undo() = 0;"
                + "undo() = -2");
    }
}
