/** The promises 2 to 24: for each of their sentences that names an edge a test of its own. */
public final class PromiseEdgesTest extends Dues {
    private static final int PLAIN = TraceCache.PLAIN, JUMP = TraceCache.JUMP, BRANCH = TraceCache.BRANCH;
    private static final int LOWEST = Integer.MIN_VALUE, HIGHEST = Integer.MAX_VALUE;

    // ---- what is made

    private static void newObject() {
        about("promise 1: Creates a program of plain instructions and a cache without lines");
        TraceCache x = new TraceCache();
        for (int i = 0; i < 48; i++) {
            int a = i;
            due("instruction(" + a + ", 0)", 0, () -> x.instruction(a, 0));
            due("linesWith(" + a + ")", 0, () -> x.linesWith(a));
        }
        due("lines()", 0, () -> x.lines());
        dueNext(x, -1, 4, 0, 0, 1, 2, 3);
    }

    private static void constants() {
        about("The constants");
        due("NONE", -1, () -> TraceCache.NONE);
        due("PLAIN", 0, () -> TraceCache.PLAIN);
        due("JUMP", 1, () -> TraceCache.JUMP);
        due("BRANCH", 2, () -> TraceCache.BRANCH);
    }

    // ---- 2 to 4: the program

    private static void writeAddress() {
        about("promise 2: address: 0 to 47; IndexOutOfBoundsException if there is no such address");
        TraceCache x = new TraceCache();
        for (int bad : NO_ADDRESSES) {
            due("write(" + bad + ", PLAIN, 0)", INDEX, () -> x.write(bad, PLAIN, 0));
        }
        due("write(0, JUMP, 3)", 0, () -> x.write(0, JUMP, 3));
        due("write(47, JUMP, 4)", 0, () -> x.write(47, JUMP, 4));
        due("instruction(0, 1)", 3, () -> x.instruction(0, 1));
        due("instruction(47, 1)", 4, () -> x.instruction(47, 1));
        due("savedStates()", 2, () -> x.savedStates());
    }

    private static void writeKind() {
        about("promise 2: kind: PLAIN, JUMP or BRANCH; IllegalArgumentException if there is no such kind");
        TraceCache x = new TraceCache();
        for (int bad : new int[] {-1, 3, LOWEST, HIGHEST}) {
            due("write(5, " + bad + ", 0)", ARGUMENT, () -> x.write(5, bad, 0));
        }
        for (int kind : new int[] {BRANCH, JUMP, PLAIN}) {
            due("write(5, " + kind + ", 0)", 0, () -> x.write(5, kind, 0));
            due("instruction(5, 0)", kind, () -> x.instruction(5, 0));
        }
    }

    private static void writeTarget() {
        about("promise 2: target: 0 to 47; it does not matter for a plain instruction, but must be in range");
        TraceCache x = new TraceCache();
        for (int kind = PLAIN; kind <= BRANCH; kind++) {
            int written = kind;
            for (int bad : NO_ADDRESSES) {
                due("write(5, " + kind + ", " + bad + ")", INDEX, () -> x.write(5, written, bad));
            }
            for (int target : new int[] {0, 47}) {
                due("write(5, " + kind + ", " + target + ")", 0, () -> x.write(5, written, target));
                due("instruction(5, 1)", written == PLAIN ? -1 : target, () -> x.instruction(5, 1));
            }
        }
        due("write(5, PLAIN, 47)", 0, () -> x.write(5, PLAIN, 47));
        due("the successor of a plain instruction", 6, () -> x.instruction(5, 6));
        x.jumpTo(5);
        due("willExecute(1)", 6, () -> x.willExecute(1));
        due("the successor of a plain instruction at 47", 0, () -> {
            x.write(47, PLAIN, 20);
            return x.instruction(47, 6);
        });
    }

    private static void writeReturns() {
        about("promise 2: Returns the number of lines that are dropped");
        due("write to no line", 0, () -> fullOfLines().write(20, PLAIN, 0));
        due("write to the only line", 1, () -> fullOfLines().write(0, PLAIN, 0));
        due("write to all lines", 8, () -> fullOfLines().write(7, PLAIN, 0));
        due("write without lines", 0, () -> new TraceCache().write(7, PLAIN, 0));
        due("write to the pending line alone", 0, () -> {
            TraceCache x = new TraceCache();
            x.run(1);
            return x.write(3, PLAIN, 0);
        });
    }

    private static void patternAddress() {
        about("promise 3: address: 0 to 47; IndexOutOfBoundsException if there is no such address");
        TraceCache x = new TraceCache();
        for (int bad : NO_ADDRESSES) {
            due("setPattern(" + bad + ", 1, 1)", INDEX, () -> x.setPattern(bad, 1, 1));
        }
        for (int edge : new int[] {0, 47}) {
            due("setPattern(" + edge + ", 2, 2)", 0, () -> x.setPattern(edge, 2, 2));
            duePattern(x, edge, 2, 2, 0);
        }
        duePattern(x, 1, 0, 1, 0);
        duePattern(x, 46, 0, 1, 0);
    }

    private static void patternLength() {
        about("promise 3: length: 1 to 8; IllegalArgumentException if the length is out of range");
        TraceCache x = new TraceCache();
        for (int bad : new int[] {0, -1, 9, 31, 32, 33, 40, LOWEST, HIGHEST}) {
            due("setPattern(0, 0, " + bad + ")", ARGUMENT, () -> x.setPattern(0, 0, bad));
            due("setPattern(0, 1, " + bad + ")", ARGUMENT, () -> x.setPattern(0, 1, bad));
        }
        for (int i = 1; i <= 8; i++) {
            int length = i;
            due("setPattern(0, 0, " + length + ")", 0, () -> x.setPattern(0, 0, length));
            duePattern(x, 0, 0, length, 0);
        }
    }

    private static void patternOutcomes() {
        about("promise 3: outcomes: 0 to 255; bits at indexes that are not less than the length must be 0");
        TraceCache x = new TraceCache();
        for (int i = 1; i <= 8; i++) {
            int length = i;
            int most = (1 << i) - 1;
            due("setPattern(0, " + most + ", " + i + ")", 0, () -> x.setPattern(0, most, length));
            duePattern(x, 0, most, i, 0);
            int[] wrong = {most + 1, most + 2, 256, -1, -most - 1, LOWEST, HIGHEST};
            for (int bad : wrong) {
                due("setPattern(0, " + bad + ", " + i + ")", ARGUMENT, () -> x.setPattern(0, bad, length));
            }
            duePattern(x, 0, most, i, 0);
        }
    }

    private static void patternBits() {
        about("promise 3: the bit i (the value 2 to the power i) is 1 if the outcome at the index i is \"taken\"");
        for (int bit = 0; bit < 8; bit++) {
            TraceCache x = new TraceCache();
            x.write(0, BRANCH, 0);
            x.setPattern(0, 255 - (1 << bit), 8);
            int path = bit;
            due("the first that is not taken without the bit " + bit, 1, () -> x.willExecute(path + 1));
            due("the one before", 0, () -> x.willExecute(path));
        }
    }

    private static void patternCount() {
        about("promise 3: its outcome count becomes 0; returns the previous outcome count");
        TraceCache x = new TraceCache();
        writeTaken(x, 0, 24, 1);
        due("setPattern(0, 3, 2) at first", 0, () -> x.setPattern(0, 3, 2));
        execute(x, 0);
        execute(x, 0);
        execute(x, 0);
        due("setPattern(0, 3, 2), the same again", 3, () -> x.setPattern(0, 3, 2));
        duePattern(x, 0, 3, 2, 0);
        due("setPattern(0, 0, 1)", 0, () -> x.setPattern(0, 0, 1));
        due("the counter stays", 3, () -> x.instruction(0, 5));
        TraceCache lines = twoLines();
        lines.run(1);
        due("setPattern of an address in lines", 0, () -> lines.setPattern(7, 1, 1));
        due("lines() stay", 2, () -> lines.lines());
        due("setPattern of an address in the pending line", 0, () -> lines.setPattern(17, 1, 1));
        duePending(lines, 16, 17, 18, 19);
    }

    private static void jumpToAddress() {
        about("promise 4: address: 0 to 47; IndexOutOfBoundsException if there is no such address");
        TraceCache x = new TraceCache();
        for (int bad : NO_ADDRESSES) {
            due("jumpTo(" + bad + ")", INDEX, () -> x.jumpTo(bad));
        }
        due("jumpTo(47)", 0, () -> x.jumpTo(47));
        due("jumpTo(0) answers the one before", 47, () -> x.jumpTo(0));
        due("programCounter()", 0, () -> x.programCounter());
    }

    private static void jumpToEmpties() {
        about("promise 4: Sets the program counter; the pending line becomes empty");
        TraceCache x = new TraceCache();
        x.run(1);
        duePending(x, 0, 1, 2, 3);
        due("jumpTo(4), where it is", 4, () -> x.jumpTo(4));
        duePending(x);
        x.run(1);
        duePending(x, 4, 5, 6, 7);
        due("lines() without the four that were dropped", 0, () -> x.lines());
        due("count(9) counts lines alone", 0, () -> x.count(9));
        TraceCache lines = twoLines();
        lines.jumpTo(3);
        due("lines() stay", 2, () -> lines.lines());
    }

    // ---- 5 and 6: running

    private static void runNumber() {
        about("promise 5: fetches: 1 to 99; IllegalArgumentException if the number is out of range");
        TraceCache x = new TraceCache();
        for (int bad : new int[] {0, -1, 100, LOWEST, HIGHEST}) {
            due("run(" + bad + ")", ARGUMENT, () -> x.run(bad));
        }
        due("count(1)", 0, () -> x.count(1));
        due("run(1)", 4, () -> x.run(1));
        due("count(1)", 1, () -> x.count(1));
        due("run(99)", 396, () -> x.run(99));
        due("count(1)", 100, () -> x.count(1));
        due("run(98)", 392, () -> x.run(98));
        due("savedStates()", 3, () -> x.savedStates());
    }

    private static void runReturns() {
        about("promise 5: Returns the number of instructions that are executed");
        TraceCache x = new TraceCache();
        x.write(0, JUMP, 0);
        due("run(1) of one instruction", 1, () -> x.run(1));
        TraceCache away = new TraceCache();
        writeTaken(away, 0, 24, 1);
        due("run(1) that throws three away", 1, () -> away.run(1));
        TraceCache line = new TraceCache();
        line.run(2);
        line.jumpTo(0);
        due("run(1) of a whole line", 8, () -> line.run(1));
    }

    private static void runIsOneCall() {
        about("promise 5: Undoable, as one call");
        TraceCache x = new TraceCache();
        x.run(99);
        due("savedStates()", 1, () -> x.savedStates());
        due("undo()", 0, () -> x.undo());
        dueCounts(x, 0, 0, 0, 0, 0, 0, 0, 0, 0, 0);
        due("lines()", 0, () -> x.lines());
    }

    private static void flushEmpty() {
        about("promise 6: Drops all lines; returns the number of lines that are dropped");
        TraceCache x = new TraceCache();
        due("flush() without lines", 0, () -> x.flush());
        due("count(9)", 0, () -> x.count(9));
        TraceCache full = fullOfLines();
        due("flush() of eight lines", 8, () -> full.flush());
        due("lines()", 0, () -> full.lines());
        due("count(9)", 8, () -> full.count(9));
        due("flush() again", 0, () -> full.flush());
        due("count(9) again", 8, () -> full.count(9));
    }

    private static void flushPending() {
        about("promise 6: the pending line becomes empty");
        TraceCache x = new TraceCache();
        x.run(1);
        due("flush() without lines", 0, () -> x.flush());
        duePending(x);
        due("programCounter()", 4, () -> x.programCounter());
        due("counter", 1, () -> x.instruction(0, 5));
        x.run(1);
        duePending(x, 4, 5, 6, 7);
    }

    // ---- 7 to 10: texts

    private static void characters() {
        about("promise 7: character: a character code, 32 to 126; IllegalArgumentException if it is out of range");
        TraceCache x = new TraceCache();
        for (int bad : new int[] {31, 127, 0, -1, 128, 256 + 48, 65536 + 48, LOWEST, HIGHEST}) {
            due("appendText(" + bad + ")", ARGUMENT, () -> x.appendText(bad));
        }
        due("appendText(32)", 1, () -> x.appendText(32));
        due("appendText(126)", 2, () -> x.appendText(126));
        due("appendText(33)", 3, () -> x.appendText(33));
        due("appendText(125)", 4, () -> x.appendText(125));
    }

    private static void fullText() {
        about("promise 7: IllegalStateException if the text has 80 characters");
        TraceCache x = typed("r1;".repeat(26) + "r");
        due("textLength()", 79, () -> x.textLength());
        due("appendText('9'), the 80th", 80, () -> x.appendText('9'));
        due("appendText('9'), the 81st", STATE, () -> x.appendText('9'));
        due("textLength()", 80, () -> x.textLength());
        due("errorPosition(), the text is as it was", -1, () -> x.errorPosition());
        due("clearText()", 80, () -> x.clearText());
        due("appendText('9') to the emptied text", 1, () -> x.appendText('9'));
    }

    private static void cleared() {
        about("promise 8: Empties the text buffer; returns the length of the text before the call");
        TraceCache x = new TraceCache();
        due("clearText() of an empty text", 0, () -> x.clearText());
        type(x, "r");
        due("clearText() of one character", 1, () -> x.clearText());
        due("errorPosition()", 0, () -> x.errorPosition());
        type(x, "x".repeat(80));
        due("clearText() of 80 characters", 80, () -> x.clearText());
        due("clearText() again", 0, () -> x.clearText());
        type(x, "0.");
        due("errorPosition() of the new text alone", -1, () -> x.errorPosition());
    }

    private static void checkedText() {
        about("promise 9: Returns NONE if the text is valid, otherwise its error position");
        due("errorPosition() of an empty text", 0, () -> new TraceCache().errorPosition());
        due("errorPosition() of the shortest command", -1, () -> typed("0.").errorPosition());
        due("errorPosition() of 80 characters", -1, () -> typed("r1;".repeat(26) + "r1").errorPosition());
        due("errorPosition() of the 80th", 79, () -> typed("r1;".repeat(26) + "r0").errorPosition());
        due("errorPosition() behind the 80th", 80, () -> typed("r11;".repeat(20)).errorPosition());
    }

    private static void allCommands() {
        about("promise 10: Executes all commands of the text in their order, as write(), setPattern() and run() do");
        TraceCache x = typed("r1;".repeat(26) + "r1");
        due("runText() of 27 commands", 108, () -> x.runText());
        due("count(1)", 27, () -> x.count(1));
        TraceCache last = typed("0.;".repeat(25) + "47j47");
        due("runText() with a write at the end", 0, () -> last.runText());
        due("instruction(47, 1)", 47, () -> last.instruction(47, 1));
        TraceCache order = typed("0j5;0.;r1;0j9");
        due("runText() of writes before and behind a run", 4, () -> order.runText());
        due("programCounter()", 4, () -> order.programCounter());
        due("instruction(0, 1)", 9, () -> order.instruction(0, 1));
        TraceCache lines = twoLines();
        type(lines, "7.;8.");
        due("runText() of writes to lines", 0, () -> lines.runText());
        due("lines()", 0, () -> lines.lines());
        due("count(9)", 2, () -> lines.count(9));
        TraceCache pending = typed("r1;3.;1p1;r1");
        due("runText() of a write to the pending line", 8, () -> pending.runText());
        duePending(pending, 4, 5, 6, 7);
        TraceCache count = typed("0b24;r1;0p01");
        count.runText();
        duePattern(count, 0, 2, 2, 0);
    }

    private static void executedByTexts() {
        about("promise 10: Returns the number of instructions that are executed by its \"r\" commands");
        for (String text : new String[] {"5.", "5j6", "5b6", "5p1", "5.;6j1;7b2;8p11;5."}) {
            due("runText() of " + text, 0, () -> typed(text).runText());
            due("runText() of " + text + " and a run", 4, () -> typed(text + ";r1").runText());
        }
        due("runText() of two runs", 12, () -> typed("r1;r2").runText());
        due("runText() of the most fetches", 20 * 396, () -> typed("r99;".repeat(19) + "r99").runText());
    }

    private static void textStays() {
        about("promise 10: The text stays in the buffer");
        TraceCache x = typed("r1");
        due("runText()", 4, () -> x.runText());
        due("textLength()", 2, () -> x.textLength());
        due("runText() again", 4, () -> x.runText());
        due("appendText('2')", 3, () -> x.appendText('2'));
        due("runText() of the longer text", 48, () -> x.runText());
    }

    private static void textIsOneCall() {
        about("promise 10: Undoable, as one call");
        TraceCache x = typed("5j9;r3;1p01;8.;7b3;r2;6.;9.;r1");
        x.runText();
        due("savedStates()", 1, () -> x.savedStates());
        due("undo()", 0, () -> x.undo());
        dueCounts(x, 0, 0, 0, 0, 0, 0, 0, 0, 0, 0);
        duePattern(x, 1, 0, 1, 0);
        due("instruction(7, 0)", 0, () -> x.instruction(7, 0));
    }

    private static void invalidText() {
        about("promise 10: IllegalStateException if the text is not valid");
        for (String text : new String[] {"", "r", "r1;", "r1;x", "r1;48.", ";", "0.;r100"}) {
            TraceCache x = typed(text);
            due("runText() of " + text, STATE, () -> x.runText());
            due("count(1)", 0, () -> x.count(1));
            due("savedStates()", 0, () -> x.savedStates());
            due("textLength()", text.length(), () -> x.textLength());
        }
    }

    // ---- 11: undo

    private static void undoReturns() {
        about("promise 11: Restores the state that was saved last; returns the number of saved states that remain");
        TraceCache x = new TraceCache();
        for (int i = 1; i <= 6; i++) {
            x.jumpTo(i);
        }
        for (int i = 5; i >= 0; i--) {
            int left = i;
            due("undo()", left, () -> x.undo());
            due("programCounter()", left, () -> x.programCounter());
            due("savedStates()", left, () -> x.savedStates());
        }
    }

    private static void nothingToUndo() {
        about("promise 11: IllegalStateException if there is no saved state");
        TraceCache x = new TraceCache();
        due("undo() at first", STATE, () -> x.undo());
        x.jumpTo(9);
        due("undo()", 0, () -> x.undo());
        due("undo() behind the last", STATE, () -> x.undo());
        due("programCounter()", 0, () -> x.programCounter());
        due("savedStates()", 0, () -> x.savedStates());
        x.jumpTo(9);
        due("savedStates() after a new call", 1, () -> x.savedStates());
    }

    // ---- 12 to 14: queries about the program

    private static void instructionAddress() {
        about("promise 12: address: 0 to 47; IndexOutOfBoundsException if there is no such address");
        TraceCache x = new TraceCache();
        for (int bad : NO_ADDRESSES) {
            for (int part = 0; part <= 6; part++) {
                int asked = part;
                due("instruction(" + bad + ", " + part + ")", INDEX, () -> x.instruction(bad, asked));
            }
        }
        due("instruction(0, 6)", 1, () -> x.instruction(0, 6));
        due("instruction(47, 6)", 0, () -> x.instruction(47, 6));
    }

    private static void instructionPart() {
        about("promise 12: IllegalArgumentException if part is not 0 to 6");
        TraceCache x = new TraceCache();
        for (int bad : new int[] {-1, 7, LOWEST, HIGHEST}) {
            due("instruction(5, " + bad + ")", ARGUMENT, () -> x.instruction(5, bad));
        }
        writeTaken(x, 5, 9, 3);
        x.setPattern(5, 6, 4);
        execute(x, 5);
        int[] parts = {2, 9, 1, 4, 6, 2, 9};
        for (int i = 0; i < parts.length; i++) {
            int part = i;
            due("instruction(5, " + part + ")", parts[part], () -> x.instruction(5, part));
        }
    }

    private static void noTarget() {
        about("promise 12: 1: the target, NONE for a plain instruction");
        TraceCache x = new TraceCache();
        due("target at first", -1, () -> x.instruction(0, 1));
        x.write(0, JUMP, 0);
        due("target of a jump to 0", 0, () -> x.instruction(0, 1));
        x.write(0, BRANCH, 47);
        due("target of a branch to 47", 47, () -> x.instruction(0, 1));
        x.write(0, PLAIN, 47);
        due("target of a plain instruction", -1, () -> x.instruction(0, 1));
    }

    private static void foreseenIndex() {
        about("promise 14: index: 0 for the instruction that will be executed next, 0 to 99");
        TraceCache x = new TraceCache();
        for (int bad : new int[] {-1, 100, LOWEST, HIGHEST}) {
            due("willExecute(" + bad + ")", INDEX, () -> x.willExecute(bad));
        }
        for (int i = 0; i < 100; i++) {
            int index = i;
            due("willExecute(" + i + ")", i % 48, () -> x.willExecute(index));
        }
        x.jumpTo(47);
        due("willExecute(0) at 47", 47, () -> x.willExecute(0));
        due("willExecute(1) at 47", 0, () -> x.willExecute(1));
        due("willExecute(99) at 47", 2, () -> x.willExecute(99));
    }

    /** Each address that run() adds to the pending line is the one that was foreseen, over a hundred of them. */
    private static void foreseenIsExecuted() {
        about("promise 14: Returns the address of an instruction that will be executed if nothing but fetches happens");
        TraceCache x = new TraceCache();
        x.write(2, BRANCH, 0);
        x.setPattern(2, 19, 5);
        x.write(4, JUMP, 2);
        int[] foreseen = new int[100];
        for (int i = 0; i < 100; i++) {
            foreseen[i] = x.willExecute(i);
        }
        int done = 0;
        for (int i = 0; i < 99 && done < 100; i++) {
            int place = done;
            due("the program counter after " + done, foreseen[place], () -> x.programCounter());
            done += x.run(1);
        }
        due("a hundred are executed", true, () -> x.count(2) >= 100);
    }

    // ---- 15 to 18: queries about lines

    private static void noSuchWay() {
        about("promise 15: IndexOutOfBoundsException if there is no such set or way");
        TraceCache x = fullOfLines();
        for (int bad : new int[] {-1, 4, LOWEST, HIGHEST}) {
            due("line(" + bad + ", 0, 0)", INDEX, () -> x.line(bad, 0, 0));
            due("line(" + bad + ", 1, 0)", INDEX, () -> x.line(bad, 1, 0));
        }
        for (int bad : new int[] {-1, 2, LOWEST, HIGHEST}) {
            due("line(0, " + bad + ", 0)", INDEX, () -> x.line(0, bad, 0));
            due("line(3, " + bad + ", 0)", INDEX, () -> x.line(3, bad, 0));
        }
        due("line(0, 0, 0)", 8, () -> x.line(0, 0, 0));
        due("line(3, 1, 0)", 8, () -> x.line(3, 1, 0));
    }

    private static void linePart() {
        about("promise 15: IllegalArgumentException if part is not 0 to 10");
        TraceCache x = fullOfLines();
        for (int bad : new int[] {-1, 11, LOWEST, HIGHEST}) {
            due("line(3, 1, " + bad + ")", ARGUMENT, () -> x.line(3, 1, bad));
            due("line(3, 1, " + bad + ") of an empty way", ARGUMENT, () -> new TraceCache().line(3, 1, bad));
        }
        dueLine(x, 3, 1, 8, 8, 7, 8, 9, 10, 11, 12, 13, 14);
    }

    private static void lineNone() {
        about("promise 15: Returns the part; NONE if the way is empty, or if the line has no such address");
        TraceCache x = new TraceCache();
        writeTaken(x, 0, 0, 1);
        x.run(3);
        dueLine(x, 0, 0, 1, 3, 0, 0, 0);
        dueEmpty(x, 0, 1);
        dueEmpty(x, 3, 1);
        x.write(0, PLAIN, 0);
        dueEmpty(x, 0, 0);
        x.undo();
        dueLine(x, 0, 0, 1, 3, 0, 0, 0);
        TraceCache shorter = twoLines();
        shorter.flush();
        shorter.jumpTo(20);
        writeTaken(shorter, 20, 20, 1);
        shorter.run(3);
        dueLine(shorter, 0, 0, 3, 3, 20, 20, 20);
    }

    private static void pendingIndex() {
        about("promise 16: index: 0 for the first one; IndexOutOfBoundsException if the index is negative");
        TraceCache x = new TraceCache();
        x.jumpTo(45);
        x.run(1);
        for (int bad : new int[] {-1, LOWEST}) {
            due("pending(" + bad + ")", INDEX, () -> x.pending(bad));
            due("pending(" + bad + ") of an empty one", INDEX, () -> new TraceCache().pending(bad));
        }
        due("pending(0)", 45, () -> x.pending(0));
        due("pending(3)", 0, () -> x.pending(3));
    }

    private static void pendingNone() {
        about("promise 16: NONE if the pending line has not so many");
        TraceCache x = new TraceCache();
        for (int index : new int[] {0, 7, 8, HIGHEST}) {
            due("pending(" + index + ") of an empty one", -1, () -> x.pending(index));
        }
        x.write(6, JUMP, 30);
        x.run(2);
        due("pending(6) of seven", 6, () -> x.pending(6));
        for (int index : new int[] {7, 8, 100, HIGHEST}) {
            due("pending(" + index + ") of seven", -1, () -> x.pending(index));
        }
        x.run(1);
        due("pending(2) of three", 33, () -> x.pending(2));
        due("pending(3) of three, where others were before", -1, () -> x.pending(3));
    }

    private static void numberOfLines() {
        about("promise 17: Returns the number of lines");
        due("lines() of an empty cache", 0, () -> new TraceCache().lines());
        due("lines() of a full cache", 8, () -> fullOfLines().lines());
        due("lines() of a full cache with one more", 8, () -> {
            TraceCache x = fullOfLines();
            x.jumpTo(30);
            x.run(2);
            return x.lines();
        });
    }

    private static void linesWithAddress() {
        about("promise 18: address: 0 to 47; IndexOutOfBoundsException if there is no such address");
        TraceCache x = new TraceCache();
        x.jumpTo(44);
        x.run(2);
        for (int bad : NO_ADDRESSES) {
            due("linesWith(" + bad + ")", INDEX, () -> x.linesWith(bad));
        }
        int[][] each = {{0, 1}, {3, 1}, {4, 0}, {43, 0}, {44, 1}, {47, 1}};
        for (int[] pair : each) {
            due("linesWith(" + pair[0] + ")", pair[1], () -> x.linesWith(pair[0]));
        }
    }

    private static void linesWithReturns() {
        about("promise 18: Returns the number of lines that contain an address");
        TraceCache full = fullOfLines();
        due("linesWith(7) of a full cache", 8, () -> full.linesWith(7));
        due("linesWith(0) of a full cache", 1, () -> full.linesWith(0));
        due("linesWith(14) of a full cache", 1, () -> full.linesWith(14));
        due("linesWith(15) of a full cache", 0, () -> full.linesWith(15));
        TraceCache often = new TraceCache();
        writeTaken(often, 0, 0, 1);
        often.run(3);
        due("linesWith(0), three times in one line", 1, () -> often.linesWith(0));
        due("linesWith(1), no address of the line", 0, () -> often.linesWith(1));
        TraceCache shorter = twoLines();
        shorter.flush();
        due("linesWith(1) of dropped lines", 0, () -> shorter.linesWith(1));
        writeTaken(shorter, 20, 20, 1);
        shorter.jumpTo(20);
        shorter.run(3);
        due("linesWith(4), left from a line before", 0, () -> shorter.linesWith(4));
    }

    // ---- 19 and 20: queries about the next fetch

    private static void fetchPart() {
        about("promise 19: IllegalArgumentException if part is not 0 to 3");
        TraceCache x = twoFromZero();
        for (int bad : new int[] {-1, 4, LOWEST, HIGHEST}) {
            due("nextFetch(" + bad + ")", ARGUMENT, () -> x.nextFetch(bad));
        }
        int[] parts = {1, 8, 2, 1};
        for (int i = 0; i < parts.length; i++) {
            int part = i;
            due("nextFetch(" + part + ")", parts[part], () -> x.nextFetch(part));
        }
    }

    private static void fetchFromMemory() {
        about("promise 19: 0: the way of the line that would be taken, "
            + "NONE if the instructions would be fetched from memory");
        TraceCache x = twoLines();
        due("nextFetch(0) at 16", -1, () -> x.nextFetch(0));
        x.jumpTo(0);
        due("nextFetch(0) at 0", 0, () -> x.nextFetch(0));
        x.jumpTo(8);
        due("nextFetch(0) at 8", 1, () -> x.nextFetch(0));
        x.write(15, PLAIN, 0);
        due("nextFetch(0) of a dropped line", -1, () -> x.nextFetch(0));
        TraceCache full = fullOfLines();
        full.jumpTo(7);
        due("nextFetch(0) of the set 3", 1, () -> full.nextFetch(0));
        full.jumpTo(3);
        due("nextFetch(0) of the set 3", 0, () -> full.nextFetch(0));
        full.jumpTo(47);
        due("nextFetch(0) of another start in the set 3", -1, () -> full.nextFetch(0));
    }

    private static void fetchedIndex() {
        about("promise 20: index: 0 for the first one; IndexOutOfBoundsException if the index is negative");
        TraceCache x = new TraceCache();
        for (int bad : new int[] {-1, LOWEST}) {
            due("wouldFetch(" + bad + ")", INDEX, () -> x.wouldFetch(bad));
        }
        due("wouldFetch(0)", 0, () -> x.wouldFetch(0));
        x.jumpTo(47);
        due("wouldFetch(0)", 47, () -> x.wouldFetch(0));
    }

    private static void fetchedNone() {
        about("promise 20: NONE if not so many instructions would be fetched");
        TraceCache x = new TraceCache();
        due("wouldFetch(3) of four", 3, () -> x.wouldFetch(3));
        for (int index : new int[] {4, 5, 7, 8, HIGHEST}) {
            due("wouldFetch(" + index + ") of four", -1, () -> x.wouldFetch(index));
        }
        x.run(2);
        x.jumpTo(0);
        due("wouldFetch(7) of eight", 7, () -> x.wouldFetch(7));
        for (int index : new int[] {8, 9, 100, HIGHEST}) {
            due("wouldFetch(" + index + ") of eight", -1, () -> x.wouldFetch(index));
        }
        x.write(0, JUMP, 20);
        due("wouldFetch(0) of one", 0, () -> x.wouldFetch(0));
        due("wouldFetch(1) of one", -1, () -> x.wouldFetch(1));
    }

    // ---- 21 to 24: counts

    private static void countWhat() {
        about("promise 21: IllegalArgumentException if what is not 0 to 9");
        TraceCache x = new TraceCache();
        for (int bad : new int[] {-1, 10, LOWEST, HIGHEST}) {
            due("count(" + bad + ")", ARGUMENT, () -> x.count(bad));
        }
        dueCounts(x, 0, 0, 0, 0, 0, 0, 0, 0, 0, 0);
        TraceCache busy = twoFromZero();
        busy.run(1);
        busy.write(10, PLAIN, 0);
        dueCounts(busy, 16, 7, 22, 14, 3, 4, 2, 2, 0, 1);
    }

    private static void replacedAreNotDropped() {
        about("promise 21: 8: lines that were replaced; 9: lines that were dropped");
        TraceCache x = new TraceCache();
        x.run(6);
        dueCounts(x, 6, 6, 24, 0, 0, 0, 0, 3, 1, 0);
        x.flush();
        dueCounts(x, 6, 6, 24, 0, 0, 0, 0, 3, 1, 2);
        x.run(2);
        dueCounts(x, 8, 8, 32, 0, 0, 0, 0, 4, 1, 2);
    }

    private static void rateWithoutTime() {
        about("promise 22: 0.0 if the time is 0");
        TraceCache x = new TraceCache();
        due("rate()", 0.0, () -> x.rate());
        x.jumpTo(5);
        x.flush();
        due("rate() without a fetch", 0.0, () -> x.rate());
        x.run(1);
        due("rate() of one fetch", 4.0, () -> x.rate());
        x.undo();
        due("rate() after undo", 0.0, () -> x.rate());
        writeTaken(x, 5, 20, 1);
        x.run(1);
        due("rate() below one", 0.25, () -> x.rate());
        x.run(2);
        due("rate() that is no whole number", 9.0 / 6.0, () -> x.rate());
    }

    private static void savedNumber() {
        about("promise 23: Returns the number of saved states");
        TraceCache x = new TraceCache();
        for (int i = 0; i <= 9; i++) {
            int saved = Math.min(i, 6);
            due("savedStates() after " + i, saved, () -> x.savedStates());
            x.flush();
        }
        for (int i = 5; i >= 0; i--) {
            int left = i;
            x.undo();
            due("savedStates() after undo", left, () -> x.savedStates());
        }
    }

    private static void lengthOfTheText() {
        about("promise 24: Returns the length of the text");
        TraceCache x = new TraceCache();
        for (int i = 0; i < 80; i++) {
            int length = i;
            due("textLength() after " + i, length, () -> x.textLength());
            x.appendText(' ');
        }
        due("textLength() after 80", 80, () -> x.textLength());
        Check.answer(() -> x.appendText(' '));
        due("textLength() after one too many", 80, () -> x.textLength());
        x.clearText();
        due("textLength() after clearText()", 0, () -> x.textLength());
    }

    /** The longest texts, run as often as one object can; each line is put and, but for two, replaced. */
    private static void manyCalls() {
        about("An object is used for at most 512 calls after it has been made");
        TraceCache x = typed("r99;".repeat(19) + "r99");
        int texts = 512 - 79 - 4;
        for (int i = 1; i < texts; i++) {
            x.runText();
        }
        due("the last runText()", 20 * 396, () -> x.runText());
        due("count(2)", texts * 20 * 396, () -> x.count(2));
        due("count(8)", texts * 20 * 396 / 8 - 2, () -> x.count(8));
        due("rate()", 4.0, () -> x.rate());
        due("undo(), the 512th call", 5, () -> x.undo());
    }

    public static void main(String[] args) {
        newObject();
        constants();
        writeAddress();
        writeKind();
        writeTarget();
        writeReturns();
        patternAddress();
        patternLength();
        patternOutcomes();
        patternBits();
        patternCount();
        jumpToAddress();
        jumpToEmpties();
        runNumber();
        runReturns();
        runIsOneCall();
        flushEmpty();
        flushPending();
        characters();
        fullText();
        cleared();
        checkedText();
        allCommands();
        executedByTexts();
        textStays();
        textIsOneCall();
        invalidText();
        undoReturns();
        nothingToUndo();
        instructionAddress();
        instructionPart();
        noTarget();
        foreseenIndex();
        foreseenIsExecuted();
        noSuchWay();
        linePart();
        lineNone();
        pendingIndex();
        pendingNone();
        numberOfLines();
        linesWithAddress();
        linesWithReturns();
        fetchPart();
        fetchFromMemory();
        fetchedIndex();
        fetchedNone();
        countWhat();
        replacedAreNotDropped();
        rateWithoutTime();
        savedNumber();
        lengthOfTheText();
        manyCalls();
        end("PromiseEdgesTest");
    }
}
