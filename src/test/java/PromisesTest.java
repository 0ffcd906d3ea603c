import java.util.concurrent.Callable;

/** For each promise of the document its ordinary inputs, its edges and its wrong inputs; all answers told by hand. */
public final class PromisesTest extends Dues {
    // ---- the promises

    private static void promise1() {
        TraceCache program = new TraceCache();
        for (int i = 0; i < 48; i++) {
            int a = i;
            due("the kind of " + a, 0, () -> program.instruction(a, 0));
            due("the target of " + a, -1, () -> program.instruction(a, 1));
            due("the outcome count of " + a, 0, () -> program.instruction(a, 2));
            due("the length of the pattern of " + a, 1, () -> program.instruction(a, 3));
            due("the pattern of " + a, 0, () -> program.instruction(a, 4));
            due("the counter of " + a, 1, () -> program.instruction(a, 5));
            due("the predicted successor of " + a, (a + 1) % 48, () -> program.instruction(a, 6));
        }
        TraceCache x = new TraceCache();
        for (int i = 0; i < 8; i++) {
            dueEmpty(x, i / 2, i % 2);
        }
        for (int i = 0; i < 48; i++) {
            int a = i;
            due("linesWith(" + a + ")", 0, () -> x.linesWith(a));
        }
        due("lines()", 0, () -> x.lines());
        due("programCounter()", 0, () -> x.programCounter());
        due("savedStates()", 0, () -> x.savedStates());
        due("textLength()", 0, () -> x.textLength());
        due("rate()", 0.0, () -> x.rate());
        duePending(x);
        dueNext(x, -1, 4, 0, 0, 1, 2, 3);
        dueCounts(x, 0, 0, 0, 0, 0, 0, 0, 0, 0, 0);
    }

    private static void promise2() {
        TraceCache x = twoLines();
        due("write(3, JUMP, 20)", 1, () -> x.write(3, TraceCache.JUMP, 20));
        due("kind", 1, () -> x.instruction(3, 0));
        due("target", 20, () -> x.instruction(3, 1));
        due("lines()", 1, () -> x.lines());
        dueEmpty(x, 0, 0);
        dueLine(x, 0, 1, 2, 8, 8, 9, 10, 11, 12, 13, 14, 15);
        dueCounts(x, 4, 4, 16, 0, 0, 0, 0, 2, 0, 1);
        x.run(1);
        due("write(20, BRANCH, 47) beside the pending line", 0, () -> x.write(20, TraceCache.BRANCH, 47));
        duePending(x, 16, 17, 18, 19);
        due("write(18, PLAIN, 0) in the pending line", 0, () -> x.write(18, TraceCache.PLAIN, 0));
        duePending(x);
        x.run(1);
        due("write(20, BRANCH, 47), first in the pending line", 0, () -> x.write(20, TraceCache.BRANCH, 47));
        duePending(x);
        x.run(1);
        due("write(20, BRANCH, 47), no longer in the pending line", 0, () -> x.write(20, TraceCache.BRANCH, 47));
        duePending(x, 24, 25, 26, 27);
        x.jumpTo(20);
        due("the program counter stays", 20, () -> x.programCounter());
        due("write(20, PLAIN, 5)", 0, () -> x.write(20, TraceCache.PLAIN, 5));
        due("a plain instruction has no target", -1, () -> x.instruction(20, 1));
        due("a plain instruction goes on", 21, () -> x.instruction(20, 6));
        due("write(8, PLAIN, 8), unchanged, drops as well", 1, () -> x.write(8, TraceCache.PLAIN, 8));
        due("count(9)", 2, () -> x.count(9));
        promise2Keeps();
        promise2Wrong();
    }

    private static void promise2Keeps() {
        TraceCache x = new TraceCache();
        x.write(0, TraceCache.BRANCH, 0);
        x.setPattern(0, 5, 3);
        x.run(1);
        due("write(0, BRANCH, 9)", 0, () -> x.write(0, TraceCache.BRANCH, 9));
        duePattern(x, 0, 5, 3, 1);
        due("the counter stays", 2, () -> x.instruction(0, 5));
        due("the new target is predicted", 9, () -> x.instruction(0, 6));
        due("write(0, PLAIN, 9)", 0, () -> x.write(0, TraceCache.PLAIN, 9));
        duePattern(x, 0, 5, 3, 1);
        due("the counter of a plain one stays", 2, () -> x.instruction(0, 5));
        due("a plain one is not predicted as taken", 1, () -> x.instruction(0, 6));
        TraceCache both = twoFromZero();
        due("write(1, PLAIN, 0) drops both", 2, () -> both.write(1, 0, 0));
        due("count(9)", 2, () -> both.count(9));
        TraceCache undone = twoLines();
        undone.write(15, TraceCache.BRANCH, 3);
        due("undo() of write", 1, () -> undone.undo());
        due("lines() after undo", 2, () -> undone.lines());
        due("kind after undo", 0, () -> undone.instruction(15, 0));
        due("count(9) after undo", 0, () -> undone.count(9));
    }

    private static void promise2Wrong() {
        TraceCache x = twoLines();
        for (int bad : NO_ADDRESSES) {
            due("write(" + bad + ", 0, 0)", INDEX, () -> x.write(bad, 0, 0));
            due("write(0, 0, " + bad + ")", INDEX, () -> x.write(0, 0, bad));
            due("write(" + bad + ", 3, 0)", INDEX, () -> x.write(bad, 3, 0));
            due("write(0, -1, " + bad + ")", INDEX, () -> x.write(0, -1, bad));
        }
        for (int bad : new int[] {-1, 3, Integer.MIN_VALUE, Integer.MAX_VALUE}) {
            due("write(0, " + bad + ", 0)", ARGUMENT, () -> x.write(0, bad, 0));
        }
        due("savedStates()", 1, () -> x.savedStates());
        due("lines()", 2, () -> x.lines());
        due("write(47, JUMP, 47)", 0, () -> x.write(47, 1, 47));
        due("write(0, JUMP, 0)", 1, () -> x.write(0, 1, 0));
        due("savedStates()", 3, () -> x.savedStates());
    }

    private static void promise3() {
        TraceCache x = new TraceCache();
        x.write(5, TraceCache.BRANCH, 5);
        due("setPattern(5, 5, 3)", 0, () -> x.setPattern(5, 5, 3));
        duePattern(x, 5, 5, 3, 0);
        x.jumpTo(5);
        x.run(1);
        due("taken at the index 0", 5, () -> x.programCounter());
        x.run(1);
        due("not taken at the index 1", 6, () -> x.programCounter());
        x.jumpTo(5);
        x.run(2);
        due("taken at 2 and, from the start again, at 3", 5, () -> x.programCounter());
        x.run(1);
        due("not taken at 4", 6, () -> x.programCounter());
        due("setPattern(5, 0, 8) answers the count before", 5, () -> x.setPattern(5, 0, 8));
        duePattern(x, 5, 0, 8, 0);
        due("setPattern(5, 0, 1)", 0, () -> x.setPattern(5, 0, 1));
        due("setPattern(47, 255, 8)", 0, () -> x.setPattern(47, 255, 8));
        duePattern(x, 47, 255, 8, 0);
        promise3Keeps();
        promise3Wrong();
    }

    private static void promise3Keeps() {
        TraceCache x = new TraceCache();
        x.run(3);
        due("setPattern(9, 1, 1)", 0, () -> x.setPattern(9, 1, 1));
        due("lines() stay", 1, () -> x.lines());
        duePending(x, 8, 9, 10, 11);
        due("the counter stays", 1, () -> x.instruction(9, 5));
        due("savedStates()", 2, () -> x.savedStates());
        due("undo() of setPattern", 1, () -> x.undo());
        duePattern(x, 9, 0, 1, 0);
    }

    private static void promise3Wrong() {
        TraceCache x = new TraceCache();
        for (int bad : NO_ADDRESSES) {
            due("setPattern(" + bad + ", 0, 1)", INDEX, () -> x.setPattern(bad, 0, 1));
            due("setPattern(" + bad + ", -1, 9)", INDEX, () -> x.setPattern(bad, -1, 9));
        }
        for (int bad : new int[] {0, -1, 9, 32, 33, Integer.MIN_VALUE, Integer.MAX_VALUE}) {
            due("setPattern(0, 0, " + bad + ")", ARGUMENT, () -> x.setPattern(0, 0, bad));
        }
        for (int i = 1; i <= 8; i++) {
            int length = i;
            int over = 1 << i;
            due("setPattern(0, " + over + ", " + i + ")", ARGUMENT, () -> x.setPattern(0, over, length));
        }
        due("setPattern(0, -1, 8)", ARGUMENT, () -> x.setPattern(0, -1, 8));
        due("setPattern(0, the highest, 8)", ARGUMENT, () -> x.setPattern(0, Integer.MAX_VALUE, 8));
        duePattern(x, 0, 0, 1, 0);
        due("savedStates()", 0, () -> x.savedStates());
        due("setPattern(0, 1, 1)", 0, () -> x.setPattern(0, 1, 1));
        due("setPattern(0, 127, 7)", 0, () -> x.setPattern(0, 127, 7));
    }

    private static void promise4() {
        TraceCache x = new TraceCache();
        x.run(3);
        duePending(x, 8, 9, 10, 11);
        due("jumpTo(47)", 12, () -> x.jumpTo(47));
        duePending(x);
        due("programCounter()", 47, () -> x.programCounter());
        due("lines() stay", 1, () -> x.lines());
        due("jumpTo(0)", 47, () -> x.jumpTo(0));
        due("jumpTo(0) where it is", 0, () -> x.jumpTo(0));
        due("savedStates()", 4, () -> x.savedStates());
        for (int bad : NO_ADDRESSES) {
            due("jumpTo(" + bad + ")", INDEX, () -> x.jumpTo(bad));
        }
        due("savedStates() after throws", 4, () -> x.savedStates());
        due("programCounter() after throws", 0, () -> x.programCounter());
        x.jumpTo(20);
        x.run(1);
        duePending(x, 20, 21, 22, 23);
        due("jumpTo(48)", INDEX, () -> x.jumpTo(48));
        duePending(x, 20, 21, 22, 23);
        x.jumpTo(24);
        due("undo() of jumpTo", 5, () -> x.undo());
        duePending(x, 20, 21, 22, 23);
    }

    private static void promise5() {
        promise5Memory();
        promise5Branches();
        promise5Predictions();
        promise5Lines();
        promise5Choice();
        promise5Storing();
        TraceCache x = new TraceCache();
        for (int bad : new int[] {0, -1, 100, Integer.MIN_VALUE, Integer.MAX_VALUE}) {
            due("run(" + bad + ")", ARGUMENT, () -> x.run(bad));
        }
        due("savedStates()", 0, () -> x.savedStates());
        due("run(1)", 4, () -> x.run(1));
        due("run(99)", 396, () -> x.run(99));
        due("savedStates(), one a call", 2, () -> x.savedStates());
        due("undo() of run(99)", 1, () -> x.undo());
        dueCounts(x, 1, 1, 4, 0, 0, 0, 0, 0, 0, 0);
    }

    private static void promise5Memory() {
        TraceCache x = new TraceCache();
        x.jumpTo(46);
        dueNext(x, -1, 4, 0, 46, 47, 0, 1);
        due("run(1) over the end", 4, () -> x.run(1));
        due("programCounter()", 2, () -> x.programCounter());
        x.write(3, TraceCache.JUMP, 40);
        dueNext(x, -1, 2, 0, 2, 3);
        due("run(1) up to a jump", 2, () -> x.run(1));
        due("programCounter()", 40, () -> x.programCounter());
        dueCounts(x, 2, 2, 6, 0, 0, 0, 0, 0, 0, 0);
        x.write(40, TraceCache.JUMP, 40);
        dueNext(x, -1, 1, 0, 40);
        due("run(1) of a jump alone", 1, () -> x.run(1));
        TraceCache wrap = new TraceCache();
        wrap.jumpTo(47);
        wrap.write(47, TraceCache.BRANCH, 20);
        due("run(1), not taken at 47", 4, () -> wrap.run(1));
        due("programCounter()", 3, () -> wrap.programCounter());
    }

    private static void promise5Branches() {
        TraceCache x = new TraceCache();
        x.write(1, TraceCache.BRANCH, 20);
        x.setPattern(1, 11, 4);
        dueNext(x, -1, 2, 1, 0, 1, 2, 3);
        due("run(1), taken and not predicted", 2, () -> x.run(1));
        due("programCounter()", 20, () -> x.programCounter());
        dueCounts(x, 4, 1, 2, 2, 1, 0, 0, 0, 0, 0);
        due("counter", 2, () -> x.instruction(1, 5));
        x.jumpTo(0);
        dueNext(x, -1, 2, 0, 0, 1);
        due("run(1), taken and predicted", 2, () -> x.run(1));
        dueCounts(x, 5, 2, 4, 2, 1, 0, 0, 0, 0, 0);
        due("counter", 3, () -> x.instruction(1, 5));
        x.jumpTo(0);
        dueNext(x, -1, 2, 1, 0, 1);
        due("run(1), predicted and not taken", 2, () -> x.run(1));
        due("programCounter()", 2, () -> x.programCounter());
        dueCounts(x, 9, 3, 6, 2, 2, 0, 0, 0, 0, 0);
        due("counter", 2, () -> x.instruction(1, 5));
        x.jumpTo(1);
        x.run(1);
        x.jumpTo(1);
        x.run(1);
        due("counter, not above 3", 3, () -> x.instruction(1, 5));
        x.setPattern(1, 0, 1);
        for (int i = 0; i < 5; i++) {
            x.jumpTo(1);
            x.run(1);
        }
        due("counter, not below 0", 0, () -> x.instruction(1, 5));
        due("outcome count", 5, () -> x.instruction(1, 2));
        x.jumpTo(0);
        dueNext(x, -1, 4, 0, 0, 1, 2, 3);
    }

    /** Predictions are those at the begin of the fetch, and a branch may go where it would go anyway. */
    private static void promise5Predictions() {
        TraceCache next = new TraceCache();
        next.write(1, TraceCache.BRANCH, 2);
        next.setPattern(1, 1, 1);
        dueNext(next, -1, 4, 1, 0, 1, 2, 3);
        due("run(1), mispredicted, nothing thrown away", 4, () -> next.run(1));
        dueCounts(next, 4, 1, 4, 0, 1, 0, 0, 0, 0, 0);
        TraceCache x = new TraceCache();
        x.write(6, TraceCache.BRANCH, 7);
        x.write(7, TraceCache.JUMP, 6);
        x.jumpTo(6);
        due("run(3)", 6, () -> x.run(3));
        dueLine(x, 2, 0, 1, 5, 6, 7, 6, 7, 6);
        duePending(x, 7);
        x.setPattern(6, 1, 1);
        dueNext(x, 0, 5, 3, 6, 7, 6, 7, 6);
        due("run(1), three times the same branch", 5, () -> x.run(1));
        due("counter", 3, () -> x.instruction(6, 5));
        dueCounts(x, 13, 4, 11, 0, 3, 5, 1, 2, 0, 0);
        dueLine(x, 3, 0, 3, 6, 7, 6, 7, 6, 7, 6);
        dueLine(x, 2, 0, 2, 5, 6, 7, 6, 7, 6);
    }

    private static void promise5Lines() {
        TraceCache x = twoFromZero();
        dueLine(x, 0, 0, 2, 2, 0, 1, 10, 11, 12, 13, 14, 15);
        dueLine(x, 0, 1, 3, 8, 0, 1, 2, 3, 4, 5, 6, 7);
        dueCounts(x, 12, 6, 20, 8, 2, 2, 1, 2, 0, 0);
        due("counter", 1, () -> x.instruction(1, 5));
        dueNext(x, 1, 2, 1, 0, 1, 2, 3, 4, 5, 6, 7);
        due("run(1) from the way 1", 2, () -> x.run(1));
        due("programCounter()", 10, () -> x.programCounter());
        dueCounts(x, 16, 7, 22, 14, 3, 4, 2, 2, 0, 0);
        dueLine(x, 0, 1, 4, 2, 0, 1, 2, 3, 4, 5, 6, 7);
        duePending(x, 0, 1);
        x.jumpTo(0);
        dueNext(x, 0, 2, 1, 0, 1, 10, 11, 12, 13, 14, 15);
        due("run(1) from the way 0", 2, () -> x.run(1));
        due("programCounter()", 2, () -> x.programCounter());
        dueLine(x, 0, 0, 5, 2, 0, 1, 10, 11, 12, 13, 14, 15);
        due("run(2)", 8, () -> x.run(2));
        dueLine(x, 0, 1, 6, 8, 0, 1, 2, 3, 4, 5, 6, 7);
        due("the same line is not put again", 2, () -> x.count(7));
        duePending(x, 8, 9);
    }

    /** Of two lines with usable parts of the same length the one in the way with the lower number is taken. */
    private static void promise5Choice() {
        TraceCache x = new TraceCache();
        x.write(1, TraceCache.BRANCH, 30);
        x.write(3, TraceCache.BRANCH, 20);
        x.setPattern(3, 1, 2);
        x.run(2);
        x.jumpTo(0);
        x.run(3);
        due("lines()", 2, () -> x.lines());
        x.setPattern(1, 1, 1);
        for (int i = 0; i < 2; i++) {
            x.jumpTo(1);
            x.run(1);
        }
        x.jumpTo(0);
        due("the predicted successor of 1", 30, () -> x.instruction(1, 6));
        due("usable part in the way 0", 2, () -> x.line(0, 0, 1));
        due("usable part in the way 1", 2, () -> x.line(0, 1, 1));
        dueNext(x, 0, 2, 0, 0, 1);
        int use = Math.max(x.line(0, 0, 2), x.line(0, 1, 2)) + 1;
        x.run(1);
        due("use number in the way 0", use, () -> x.line(0, 0, 2));
        x.jumpTo(0);
        dueNext(x, 0, 2, 0, 0, 1);
    }

    private static void promise5Storing() {
        TraceCache x = twoLines();
        dueLine(x, 0, 0, 1, 8, 0, 1, 2, 3, 4, 5, 6, 7);
        x.jumpTo(0);
        due("run(1) of a whole line", 8, () -> x.run(1));
        dueLine(x, 0, 0, 4, 8, 0, 1, 2, 3, 4, 5, 6, 7);
        duePending(x);
        due("run(2): another line, then from memory", 12, () -> x.run(2));
        dueLine(x, 0, 1, 6, 8, 8, 9, 10, 11, 12, 13, 14, 15);
        dueCounts(x, 7, 7, 36, 0, 0, 16, 2, 2, 0, 0);
        due("run(1)", 4, () -> x.run(1));
        dueLine(x, 0, 0, 7, 8, 16, 17, 18, 19, 20, 21, 22, 23);
        due("lines that were replaced", 1, () -> x.count(8));
        x.jumpTo(8);
        x.run(1);
        x.jumpTo(0);
        x.run(2);
        dueLine(x, 0, 0, 10, 8, 0, 1, 2, 3, 4, 5, 6, 7);
        due("lines that were put into ways", 4, () -> x.count(7));
        x.jumpTo(2);
        x.run(2);
        dueLine(x, 2, 0, 11, 8, 2, 3, 4, 5, 6, 7, 8, 9);
        x.write(9, 0, 0);
        due("lines() after a write", 1, () -> x.lines());
        x.jumpTo(24);
        x.run(2);
        dueLine(x, 0, 1, 12, 8, 24, 25, 26, 27, 28, 29, 30, 31);
        x.jumpTo(47);
        x.run(2);
        dueLine(x, 3, 0, 13, 8, 47, 0, 1, 2, 3, 4, 5, 6);
        TraceCache branches = new TraceCache();
        branches.write(0, TraceCache.BRANCH, 9);
        branches.write(1, TraceCache.BRANCH, 9);
        branches.write(3, TraceCache.BRANCH, 9);
        branches.run(1);
        dueLine(branches, 0, 0, 1, 4, 0, 1, 2, 3);
        duePending(branches);
        branches.run(1);
        duePending(branches, 4, 5, 6, 7);
    }

    private static void promise6() {
        TraceCache x = twoLines();
        x.run(1);
        due("flush()", 2, () -> x.flush());
        due("lines()", 0, () -> x.lines());
        duePending(x);
        due("count(9)", 2, () -> x.count(9));
        due("programCounter()", 20, () -> x.programCounter());
        due("flush() of nothing", 0, () -> x.flush());
        due("savedStates()", 4, () -> x.savedStates());
        due("undo()", 3, () -> x.undo());
        due("undo()", 2, () -> x.undo());
        due("lines() after undo", 2, () -> x.lines());
        due("count(9) after undo", 0, () -> x.count(9));
        duePending(x, 16, 17, 18, 19);
        x.flush();
        x.run(2);
        dueLine(x, 0, 0, 3, 8, 20, 21, 22, 23, 24, 25, 26, 27);
    }

    private static void promise7() {
        TraceCache x = new TraceCache();
        for (int bad : new int[] {31, 127, -1, 0, 48 + 65536, Integer.MIN_VALUE, Integer.MAX_VALUE}) {
            due("appendText(" + bad + ")", ARGUMENT, () -> x.appendText(bad));
        }
        due("textLength()", 0, () -> x.textLength());
        due("appendText(32)", 1, () -> x.appendText(32));
        due("appendText(126)", 2, () -> x.appendText(126));
        for (int i = 3; i <= 80; i++) {
            due("appendText('0'), the " + i + "th", i, () -> x.appendText('0'));
        }
        due("appendText('0') to a full text", STATE, () -> x.appendText('0'));
        due("appendText(31) to a full text", ARGUMENT, () -> x.appendText(31));
        due("appendText(127) to a full text", ARGUMENT, () -> x.appendText(127));
        due("textLength()", 80, () -> x.textLength());
        due("savedStates()", 0, () -> x.savedStates());
    }

    private static void promise8() {
        TraceCache x = new TraceCache();
        due("clearText() of an empty text", 0, () -> x.clearText());
        type(x, "3b0;x");
        due("clearText()", 5, () -> x.clearText());
        due("textLength()", 0, () -> x.textLength());
        due("savedStates()", 0, () -> x.savedStates());
        due("errorPosition()", 0, () -> x.errorPosition());
        type(x, "r1");
        due("errorPosition() of a new text", -1, () -> x.errorPosition());
        due("clearText()", 2, () -> x.clearText());
    }

    private static void promise9() {
        String[] valid = {"0.", "9.", "10.", "39.", "40.", "47.", "0j0", "47j47", "5b40", "0b9", "12b3", "0p0", "0p1",
            "47p10101010", "3p00000000", "r1", "r9", "r10", "r99", "0.;0.", "r1;r2;r3", "3b0;3p110;r9;4j3;4.",
            "0p1;r5", "1j4;2b39;4p11111111;r99;0."};
        for (String text : valid) {
            due("errorPosition() of " + text, -1, () -> typed(text).errorPosition());
        }
        String[] short_ = {"", "0", "4", "47", "0j", "0b", "0p", "r", "0.;", "r1;", "0j1;", "0p1;", "0p11111111;",
            "0.;4", "r99;r", "12b3;12"};
        for (String text : short_) {
            due("errorPosition() of " + text + ", too short", text.length(), () -> typed(text).errorPosition());
        }
        Object[][] wrong = {{"00.", 1}, {"01.", 1}, {"48.", 1}, {"49j1", 1}, {"50.", 1}, {"9.0", 2}, {"90.", 1},
            {"100.", 2}, {"470.", 2}, {"0j48", 3}, {"0j00", 3}, {"0j470", 4}, {"0b5.", 3}, {"0bx", 2}, {"0j;", 2},
            {"0p2", 2}, {"0p;", 2}, {"0p12", 3}, {"0p000000000", 10}, {"0p0.", 3}, {"r0", 1}, {"r00", 1}, {"r100", 3},
            {"r1.", 2}, {"r;", 1}, {"rr", 1}, {";", 0}, {";0.", 0}, {"0.;;0.", 3}, {"0. ;0.", 2}, {" 0.", 0},
            {"x", 0}, {"j0", 0}, {".", 0}, {"0;", 1}, {"0r1", 1}, {"0.r1", 2}, {"0J1", 1}, {"R1", 0}, {"-1.", 0},
            {"0..", 2}, {"0.;r1x;y", 5}, {"r1;48.", 4}, {"4/", 1}, {"4:", 1}, {"0p/", 2}, {"r/", 1}, {"r:", 1}};
        for (Object[] each : wrong) {
            String text = (String) each[0];
            due("errorPosition() of " + text, each[1], () -> typed(text).errorPosition());
        }
        String full = "r10;".repeat(20);
        due("errorPosition() of 80 characters that want more", 80, () -> typed(full).errorPosition());
        String good = "r10;".repeat(19) + "0p00";
        due("errorPosition() of 80 valid characters", -1, () -> typed(good).errorPosition());
        String late = "r10;".repeat(19) + "0p0x";
        due("errorPosition() at the last of 80", 79, () -> typed(late).errorPosition());
        due("errorPosition() saves nothing", 0, () -> typed("0.").savedStates());
    }

    private static void promise10() {
        TraceCache x = typed("1b20;1p01;r1;7j7;7.;r2");
        due("runText()", 12, () -> x.runText());
        due("kind of 1", 2, () -> x.instruction(1, 0));
        due("target of 1", 20, () -> x.instruction(1, 1));
        duePattern(x, 1, 2, 2, 1);
        due("kind of 7", 0, () -> x.instruction(7, 0));
        due("textLength(), the text stays", 22, () -> x.textLength());
        due("programCounter()", 12, () -> x.programCounter());
        due("savedStates()", 1, () -> x.savedStates());
        duePending(x, 8, 9, 10, 11);
        due("undo(), all in one", 0, () -> x.undo());
        due("kind of 1 after undo", 0, () -> x.instruction(1, 0));
        due("programCounter() after undo", 0, () -> x.programCounter());
        due("textLength() after undo", 22, () -> x.textLength());
        promise10Each();
        promise10Wrong();
    }

    private static void promise10Each() {
        TraceCache x = twoLines();
        type(x, "3j40;40b47;47p00010011;9.");
        due("runText() without fetches", 0, () -> x.runText());
        due("kind of 3", 1, () -> x.instruction(3, 0));
        due("target of 3", 40, () -> x.instruction(3, 1));
        due("kind of 40", 2, () -> x.instruction(40, 0));
        due("target of 40", 47, () -> x.instruction(40, 1));
        duePattern(x, 47, 200, 8, 0);
        due("lines() dropped by the text", 0, () -> x.lines());
        due("count(9)", 2, () -> x.count(9));
        due("savedStates()", 2, () -> x.savedStates());
        due("undo()", 1, () -> x.undo());
        due("lines()", 2, () -> x.lines());
        TraceCache most = typed("r99;".repeat(19) + "r99");
        due("runText() of the most fetches", 20 * 396, () -> most.runText());
        due("runText() again", true, () -> most.runText() > 0);
        due("savedStates()", 2, () -> most.savedStates());
        TraceCache pending = typed("r1;2.");
        due("runText() that writes in the pending line", 4, () -> pending.runText());
        duePending(pending);
        TraceCache reset = typed("0b0;0p1;r3;0p10");
        due("runText() with a pattern at the end", 3, () -> reset.runText());
        duePattern(reset, 0, 1, 2, 0);
    }

    private static void promise10Wrong() {
        for (String text : new String[] {"", "r1;", "0.;48.", "r", "r1;x", "r0"}) {
            TraceCache x = typed(text);
            due("runText() of " + text, STATE, () -> x.runText());
            due("savedStates()", 0, () -> x.savedStates());
            due("count(1)", 0, () -> x.count(1));
            due("textLength()", text.length(), () -> x.textLength());
        }
    }

    private static void promise11() {
        TraceCache x = new TraceCache();
        due("undo() of nothing", STATE, () -> x.undo());
        for (int i = 1; i <= 8; i++) {
            x.jumpTo(i);
            due("savedStates()", Math.min(i, 6), () -> x.savedStates());
        }
        for (int i = 5; i >= 0; i--) {
            due("undo()", i, () -> x.undo());
            due("programCounter()", i + 2, () -> x.programCounter());
        }
        due("undo() of the last but six", STATE, () -> x.undo());
        due("programCounter()", 2, () -> x.programCounter());
        for (int i = 10; i < 14; i++) {
            x.jumpTo(i);
        }
        due("undo()", 3, () -> x.undo());
        x.jumpTo(20);
        due("undo() after new calls", 3, () -> x.undo());
        due("undo() after new calls", 2, () -> x.undo());
        due("programCounter()", 11, () -> x.programCounter());
        promise11Whole();
    }

    private static void promise11Whole() {
        TraceCache x = twoFromZero();
        x.run(1);
        x.write(12, TraceCache.JUMP, 3);
        x.setPattern(1, 7, 3);
        x.flush();
        x.run(5);
        type(x, "r3");
        x.runText();
        for (int i = 0; i < 5; i++) {
            x.undo();
        }
        due("savedStates()", 1, () -> x.savedStates());
        due("programCounter()", 10, () -> x.programCounter());
        due("textLength(), not undone", 2, () -> x.textLength());
        due("kind of 12", 0, () -> x.instruction(12, 0));
        due("counter of 1", 2, () -> x.instruction(1, 5));
        duePattern(x, 1, 1, 2, 3);
        dueCounts(x, 16, 7, 22, 14, 3, 4, 2, 2, 0, 0);
        duePending(x, 0, 1);
        dueLine(x, 0, 0, 2, 8, 0, 1, 10, 11, 12, 13, 14, 15);
        dueLine(x, 0, 1, 4, 2, 0, 1, 2, 3, 4, 5, 6, 7);
        x.jumpTo(32);
        x.run(2);
        dueLine(x, 0, 0, 5, 8, 32, 33, 34, 35, 36, 37, 38, 39);
        TraceCache once = twoFromZero();
        once.run(1);
        once.undo();
        due("counter of 1 after undo of run", 1, () -> once.instruction(1, 5));
        duePattern(once, 1, 1, 2, 2);
        dueCounts(once, 12, 6, 20, 8, 2, 2, 1, 2, 0, 0);
        dueLine(once, 0, 1, 3, 8, 0, 1, 2, 3, 4, 5, 6, 7);
    }

    private static void promise12() {
        TraceCache x = new TraceCache();
        x.write(2, TraceCache.BRANCH, 46);
        x.write(47, TraceCache.JUMP, 5);
        x.setPattern(2, 6, 3);
        x.run(1);
        x.jumpTo(2);
        x.run(1);
        int[] branch = {2, 46, 2, 3, 6, 1, 3};
        int[] jump = {1, 5, 0, 1, 0, 1, 5};
        int[] plain = {0, -1, 0, 1, 0, 1, 47};
        for (int i = 0; i <= 6; i++) {
            int part = i;
            due("instruction(2, " + i + ")", branch[i], () -> x.instruction(2, part));
            due("instruction(47, " + i + ")", jump[i], () -> x.instruction(47, part));
            due("instruction(46, " + i + ")", plain[i], () -> x.instruction(46, part));
        }
        x.jumpTo(2);
        x.run(1);
        due("predicted as taken from the counter 2 on", 46, () -> x.instruction(2, 6));
        for (int bad : NO_ADDRESSES) {
            due("instruction(" + bad + ", 0)", INDEX, () -> x.instruction(bad, 0));
            due("instruction(" + bad + ", 7)", INDEX, () -> x.instruction(bad, 7));
        }
        for (int bad : new int[] {-1, 7, Integer.MIN_VALUE, Integer.MAX_VALUE}) {
            due("instruction(0, " + bad + ")", ARGUMENT, () -> x.instruction(0, bad));
        }
    }

    private static void promise13() {
        TraceCache x = new TraceCache();
        due("programCounter()", 0, () -> x.programCounter());
        x.run(1);
        due("programCounter() behind four", 4, () -> x.programCounter());
        x.jumpTo(47);
        due("programCounter() after jumpTo", 47, () -> x.programCounter());
        x.write(47, TraceCache.JUMP, 13);
        x.run(1);
        due("programCounter() behind a jump", 13, () -> x.programCounter());
    }

    private static void promise14() {
        TraceCache x = new TraceCache();
        x.write(2, TraceCache.BRANCH, 0);
        x.setPattern(2, 5, 3);
        x.write(4, TraceCache.JUMP, 2);
        // Taken, not taken, taken, taken, not taken, ..
        int[] path = {0, 1, 2, 0, 1, 2, 3, 4, 2, 0, 1, 2, 0, 1, 2, 3, 4, 2, 0};
        for (int i = 0; i < path.length; i++) {
            int index = i;
            due("willExecute(" + i + ")", path[i], () -> x.willExecute(index));
        }
        due("willExecute(2) again", 2, () -> x.willExecute(2));
        duePattern(x, 2, 5, 3, 0);
        due("counter", 1, () -> x.instruction(2, 5));
        due("programCounter()", 0, () -> x.programCounter());
        due("count(2)", 0, () -> x.count(2));
        x.run(2);
        due("willExecute(0) after six", 3, () -> x.willExecute(0));
        due("willExecute(2) after six", 2, () -> x.willExecute(2));
        due("willExecute(3) after six", 0, () -> x.willExecute(3));
        TraceCache plain = new TraceCache();
        due("willExecute(99)", 3, () -> plain.willExecute(99));
        due("willExecute(48)", 0, () -> plain.willExecute(48));
        for (int bad : new int[] {-1, 100, Integer.MIN_VALUE, Integer.MAX_VALUE}) {
            due("willExecute(" + bad + ")", INDEX, () -> plain.willExecute(bad));
        }
    }

    private static void promise15() {
        TraceCache x = new TraceCache();
        x.jumpTo(5);
        x.run(2);
        dueLine(x, 1, 0, 1, 8, 5, 6, 7, 8, 9, 10, 11, 12);
        dueEmpty(x, 1, 1);
        x.write(20, TraceCache.BRANCH, 21);
        x.write(21, TraceCache.BRANCH, 22);
        x.write(22, TraceCache.BRANCH, 20);
        x.jumpTo(20);
        x.run(1);
        dueLine(x, 0, 0, 2, 3, 20, 21, 22);
        for (int bad : new int[] {-1, 4, Integer.MIN_VALUE, Integer.MAX_VALUE}) {
            due("line(" + bad + ", 0, 0)", INDEX, () -> x.line(bad, 0, 0));
            due("line(" + bad + ", 0, 11)", INDEX, () -> x.line(bad, 0, 11));
        }
        for (int bad : new int[] {-1, 2, Integer.MIN_VALUE, Integer.MAX_VALUE}) {
            due("line(0, " + bad + ", 0)", INDEX, () -> x.line(0, bad, 0));
            due("line(0, " + bad + ", -1)", INDEX, () -> x.line(0, bad, -1));
        }
        for (int bad : new int[] {-1, 11, Integer.MIN_VALUE, Integer.MAX_VALUE}) {
            due("line(0, 0, " + bad + ")", ARGUMENT, () -> x.line(0, 0, bad));
            due("line(3, 1, " + bad + ") of an empty way", ARGUMENT, () -> x.line(3, 1, bad));
        }
    }

    private static void promise16() {
        TraceCache x = new TraceCache();
        duePending(x);
        x.jumpTo(45);
        x.run(1);
        duePending(x, 45, 46, 47, 0);
        due("pending(8)", -1, () -> x.pending(8));
        due("pending(the highest)", -1, () -> x.pending(Integer.MAX_VALUE));
        due("pending(-1)", INDEX, () -> x.pending(-1));
        due("pending(the lowest)", INDEX, () -> x.pending(Integer.MIN_VALUE));
        x.run(1);
        duePending(x);
    }

    private static void promise17() {
        TraceCache x = new TraceCache();
        due("lines()", 0, () -> x.lines());
        for (int start = 0; start < 10; start++) {
            x.jumpTo(start);
            x.run(2);
            int lines = Math.min(start + 1, 8);
            due("lines() after the start " + start, lines, () -> x.lines());
        }
        due("lines that were replaced", 2, () -> x.count(8));
        due("flush()", 8, () -> x.flush());
        due("lines()", 0, () -> x.lines());
    }

    private static void promise18() {
        TraceCache x = new TraceCache();
        for (int start = 0; start < 8; start++) {
            x.jumpTo(start);
            x.run(2);
        }
        for (int i = 0; i < 48; i++) {
            int a = i;
            int with = a < 8 ? a + 1 : Math.max(0, 15 - a);
            due("linesWith(" + a + ")", with, () -> x.linesWith(a));
        }
        TraceCache often = new TraceCache();
        often.write(7, TraceCache.JUMP, 7);
        often.jumpTo(7);
        often.run(8);
        due("linesWith(7), eight times in one line", 1, () -> often.linesWith(7));
        due("linesWith(0)", 0, () -> often.linesWith(0));
        due("write(7, PLAIN, 0)", 1, () -> often.write(7, 0, 0));
        due("linesWith(7)", 0, () -> often.linesWith(7));
        for (int bad : NO_ADDRESSES) {
            due("linesWith(" + bad + ")", INDEX, () -> x.linesWith(bad));
        }
    }

    private static void promise19() {
        TraceCache x = twoFromZero();
        for (int i = 0; i < 2; i++) {
            due("nextFetch(0)", 1, () -> x.nextFetch(0));
            due("nextFetch(1)", 8, () -> x.nextFetch(1));
            due("nextFetch(2)", 2, () -> x.nextFetch(2));
            due("nextFetch(3)", 1, () -> x.nextFetch(3));
        }
        due("use number", 3, () -> x.line(0, 1, 2));
        duePending(x);
        due("counter", 1, () -> x.instruction(1, 5));
        duePattern(x, 1, 1, 2, 2);
        due("programCounter()", 0, () -> x.programCounter());
        dueCounts(x, 12, 6, 20, 8, 2, 2, 1, 2, 0, 0);
        due("run(1)", 2, () -> x.run(1));
        due("nextFetch(0) from memory", -1, () -> x.nextFetch(0));
        due("nextFetch(1) from memory", 4, () -> x.nextFetch(1));
        due("nextFetch(2) from memory", 4, () -> x.nextFetch(2));
        due("nextFetch(3) from memory", 0, () -> x.nextFetch(3));
        x.jumpTo(4);
        due("nextFetch(0), another start in the set", -1, () -> x.nextFetch(0));
        for (int bad : new int[] {-1, 4, Integer.MIN_VALUE, Integer.MAX_VALUE}) {
            due("nextFetch(" + bad + ")", ARGUMENT, () -> x.nextFetch(bad));
        }
    }

    private static void promise20() {
        TraceCache x = twoFromZero();
        for (int i = 0; i < 10; i++) {
            int index = i;
            due("wouldFetch(" + i + ")", i < 8 ? i : -1, () -> x.wouldFetch(index));
        }
        due("use number", 3, () -> x.line(0, 1, 2));
        due("programCounter()", 0, () -> x.programCounter());
        x.jumpTo(45);
        int[] memory = {45, 46, 47, 0, -1, -1};
        for (int i = 0; i < memory.length; i++) {
            int index = i;
            due("wouldFetch(" + i + ") from memory", memory[i], () -> x.wouldFetch(index));
        }
        due("wouldFetch(the highest)", -1, () -> x.wouldFetch(Integer.MAX_VALUE));
        due("wouldFetch(-1)", INDEX, () -> x.wouldFetch(-1));
        due("wouldFetch(the lowest)", INDEX, () -> x.wouldFetch(Integer.MIN_VALUE));
    }

    private static void promise21() {
        TraceCache x = twoFromZero();
        dueCounts(x, 12, 6, 20, 8, 2, 2, 1, 2, 0, 0);
        x.jumpTo(8);
        x.run(6);
        dueCounts(x, 18, 12, 44, 8, 2, 2, 1, 5, 3, 0);
        due("write(24, PLAIN, 0)", 1, () -> x.write(24, 0, 0));
        due("flush()", 1, () -> x.flush());
        dueCounts(x, 18, 12, 44, 8, 2, 2, 1, 5, 3, 2);
        for (int bad : new int[] {-1, 10, Integer.MIN_VALUE, Integer.MAX_VALUE}) {
            due("count(" + bad + ")", ARGUMENT, () -> x.count(bad));
        }
    }

    private static void promise22() {
        TraceCache x = new TraceCache();
        due("rate()", 0.0, () -> x.rate());
        x.run(3);
        due("rate() of plain instructions", 4.0, () -> x.rate());
        x.write(12, TraceCache.BRANCH, 0);
        x.setPattern(12, 1, 1);
        x.run(1);
        due("rate() with a misprediction", 13.0 / 7.0, () -> x.rate());
        x.undo();
        due("rate() after undo", 4.0, () -> x.rate());
    }

    private static void promise23() {
        TraceCache x = new TraceCache();
        type(x, "r1");
        Callable<?>[] undoable = {() -> x.write(0, 0, 0), () -> x.setPattern(0, 0, 1), () -> x.jumpTo(0),
            () -> x.run(1), () -> x.flush(), () -> x.runText()};
        for (int i = 0; i < undoable.length; i++) {
            Check.answer(undoable[i]);
            due("savedStates()", i + 1, () -> x.savedStates());
        }
        x.flush();
        due("savedStates(), at most six", 6, () -> x.savedStates());
        x.appendText(';');
        x.clearText();
        x.errorPosition();
        due("savedStates() after calls that are not undoable", 6, () -> x.savedStates());
        x.undo();
        due("savedStates() after undo", 5, () -> x.savedStates());
    }

    private static void promise24() {
        TraceCache x = new TraceCache();
        due("textLength()", 0, () -> x.textLength());
        type(x, "r1;r2");
        due("textLength()", 5, () -> x.textLength());
        x.runText();
        x.undo();
        due("textLength() after runText and undo", 5, () -> x.textLength());
        x.clearText();
        due("textLength() after clearText", 0, () -> x.textLength());
    }

    public static void main(String[] args) {
        Runnable[] promises = {PromisesTest::promise1, PromisesTest::promise2, PromisesTest::promise3,
            PromisesTest::promise4, PromisesTest::promise5, PromisesTest::promise6, PromisesTest::promise7,
            PromisesTest::promise8, PromisesTest::promise9, PromisesTest::promise10, PromisesTest::promise11,
            PromisesTest::promise12, PromisesTest::promise13, PromisesTest::promise14, PromisesTest::promise15,
            PromisesTest::promise16, PromisesTest::promise17, PromisesTest::promise18, PromisesTest::promise19,
            PromisesTest::promise20, PromisesTest::promise21, PromisesTest::promise22, PromisesTest::promise23,
            PromisesTest::promise24};
        for (int i = 0; i < promises.length; i++) {
            about("promise " + (i + 1));
            promises[i].run();
        }
        end("PromisesTest");
    }
}
