/**
 * The sections 1 to 6 and 8 of the document's terms: for each sentence that names an edge a test of its own. Section 7
 * is in TextEdgesTest; section 9, and what undo brings back, are in UnchangedTest.
 */
public final class TermsEdgesTest extends Dues {
    private static final int PLAIN = TraceCache.PLAIN, JUMP = TraceCache.JUMP, BRANCH = TraceCache.BRANCH;

    // ---- 1. the program

    private static void addresses() {
        about("1: The program has 48 instructions at the addresses 0 to 47");
        for (int edge : new int[] {0, 47}) {
            TraceCache x = new TraceCache();
            due("write(" + edge + ", JUMP, " + edge + ")", 0, () -> x.write(edge, JUMP, edge));
            due("setPattern(" + edge + ", 1, 1)", 0, () -> x.setPattern(edge, 1, 1));
            due("jumpTo(" + edge + ")", 0, () -> x.jumpTo(edge));
            due("programCounter()", edge, () -> x.programCounter());
            due("instruction(" + edge + ", 1)", edge, () -> x.instruction(edge, 1));
            due("linesWith(" + edge + ")", 0, () -> x.linesWith(edge));
        }
        TraceCache x = new TraceCache();
        for (int bad : NO_ADDRESSES) {
            due("write(" + bad + ", JUMP, 0)", INDEX, () -> x.write(bad, JUMP, 0));
            due("write(0, JUMP, " + bad + ")", INDEX, () -> x.write(0, JUMP, bad));
            due("setPattern(" + bad + ", 1, 1)", INDEX, () -> x.setPattern(bad, 1, 1));
            due("jumpTo(" + bad + ")", INDEX, () -> x.jumpTo(bad));
            due("instruction(" + bad + ", 1)", INDEX, () -> x.instruction(bad, 1));
            due("linesWith(" + bad + ")", INDEX, () -> x.linesWith(bad));
        }
    }

    private static void afterTheLastAddress() {
        about("1: The address after a is a + 1, and 0 after 47");
        TraceCache x = new TraceCache();
        due("the predicted successor of 46", 47, () -> x.instruction(46, 6));
        due("the predicted successor of 47", 0, () -> x.instruction(47, 6));
        x.jumpTo(46);
        int[] path = {46, 47, 0, 1};
        for (int i = 0; i < path.length; i++) {
            int index = i;
            due("willExecute(" + i + ")", path[i], () -> x.willExecute(index));
        }
        dueNext(x, -1, 4, 0, 46, 47, 0, 1);
        due("run(1)", 4, () -> x.run(1));
        due("programCounter()", 2, () -> x.programCounter());
        duePending(x, 46, 47, 0, 1);
        x.jumpTo(45);
        due("run(1) up to 47 and over it", 4, () -> x.run(1));
        due("programCounter()", 1, () -> x.programCounter());
        x.jumpTo(44);
        due("run(1) up to 47", 4, () -> x.run(1));
        due("programCounter()", 0, () -> x.programCounter());
    }

    private static void allPlain() {
        about("1: At first all instructions are plain ones");
        TraceCache x = new TraceCache();
        for (int i = 0; i < 48; i++) {
            int a = i;
            due("instruction(" + a + ", 0)", 0, () -> x.instruction(a, 0));
            due("instruction(" + a + ", 1)", -1, () -> x.instruction(a, 1));
        }
    }

    private static void jumpsAtTheEnds() {
        about("1: JUMP (1), with a target, which is an address: its successor is the target");
        int[][] jumps = {{47, 30}, {47, 47}, {47, 0}, {0, 47}, {0, 0}, {46, 47}, {12, 13}};
        for (int[] jump : jumps) {
            TraceCache x = new TraceCache();
            x.write(jump[0], JUMP, jump[1]);
            x.jumpTo(jump[0]);
            String name = " of the jump at " + jump[0] + " to " + jump[1];
            due("predicted successor" + name, jump[1], () -> x.instruction(jump[0], 6));
            due("willExecute(1)" + name, jump[1], () -> x.willExecute(1));
            due("run(1)" + name, 1, () -> x.run(1));
            due("programCounter() behind" + name, jump[1], () -> x.programCounter());
        }
    }

    private static void branchesAtTheLast() {
        about("1: BRANCH (2), with a target: its successor is the target if it is taken, and the address after it "
            + "otherwise");
        TraceCache x = new TraceCache();
        x.write(47, BRANCH, 47);
        x.setPattern(47, 1, 2);
        x.jumpTo(47);
        due("willExecute(1), taken", 47, () -> x.willExecute(1));
        due("willExecute(2), not taken", 0, () -> x.willExecute(2));
        due("run(1), taken", 1, () -> x.run(1));
        due("programCounter()", 47, () -> x.programCounter());
        due("run(1), not taken", 1, () -> x.run(1));
        due("programCounter()", 0, () -> x.programCounter());
        x.write(0, BRANCH, 47);
        x.setPattern(0, 1, 1);
        due("run(1), taken from 0", 1, () -> x.run(1));
        due("programCounter()", 47, () -> x.programCounter());
    }

    private static void patternLengths() {
        about("1: Each address has a pattern, a sequence of 1 to 8 outcomes");
        TraceCache x = new TraceCache();
        due("setPattern(3, 0, 0)", ARGUMENT, () -> x.setPattern(3, 0, 0));
        due("setPattern(3, 0, 9)", ARGUMENT, () -> x.setPattern(3, 0, 9));
        due("setPattern(3, 1, 1)", 0, () -> x.setPattern(3, 1, 1));
        duePattern(x, 3, 1, 1, 0);
        due("setPattern(3, 128, 8)", 0, () -> x.setPattern(3, 128, 8));
        duePattern(x, 3, 128, 8, 0);
        due("setPattern(3, 255, 8)", 0, () -> x.setPattern(3, 255, 8));
        duePattern(x, 3, 255, 8, 0);
    }

    private static void firstPatterns() {
        about("1: At first each pattern is a single \"not taken\", and each outcome count is 0");
        TraceCache x = new TraceCache();
        for (int a = 0; a < 48; a++) {
            duePattern(x, a, 0, 1, 0);
        }
        for (int a : new int[] {0, 21, 47}) {
            TraceCache branch = new TraceCache();
            branch.write(a, BRANCH, 30);
            branch.jumpTo(a);
            due("willExecute(1) behind a branch at " + a, (a + 1) % 48, () -> branch.willExecute(1));
        }
    }

    /** Patterns with a single "taken", executed more than twice over. */
    private static void patternsWrap() {
        about("1: the outcome at the index c modulo the length of the pattern (from 0 on) tells whether it is taken");
        for (int length = 1; length <= 8; length++) {
            for (int bit = 0; bit < length; bit++) {
                TraceCache x = new TraceCache();
                x.write(0, BRANCH, 24);
                x.setPattern(0, 1 << bit, length);
                for (int c = 0; c <= 2 * length; c++) {
                    x.jumpTo(0);
                    x.flush();
                    boolean taken = c % length == bit;
                    String name = " with the outcome " + bit + " of " + length + " taken, count " + c;
                    due("willExecute(1)" + name, taken ? 24 : 1, () -> x.willExecute(1));
                    x.run(1);
                    due("taken" + name, taken, () -> x.programCounter() == 24);
                }
            }
        }
    }

    private static void outcomeCounts() {
        about("1: then the outcome count increases by 1");
        TraceCache x = new TraceCache();
        writeTaken(x, 0, 24, 1);
        x.write(1, BRANCH, 24);
        x.write(24, JUMP, 30);
        x.run(3);
        due("the outcome count of an executed branch", 1, () -> x.instruction(0, 2));
        due("the outcome count of a branch that was thrown away", 0, () -> x.instruction(1, 2));
        due("the outcome count of a jump", 0, () -> x.instruction(24, 2));
        due("the outcome count of a plain instruction", 0, () -> x.instruction(30, 2));
        for (int i = 0; i < 99; i++) {
            x.write(5, BRANCH, 5);
            x.jumpTo(5);
            x.run(1);
        }
        due("the outcome count after 99", 99, () -> x.instruction(5, 2));
    }

    private static void firstProgramCounter() {
        about("1: The program counter is an address, 0 at first");
        TraceCache x = new TraceCache();
        due("programCounter()", 0, () -> x.programCounter());
        x.run(12);
        due("programCounter() after 48", 0, () -> x.programCounter());
    }

    // ---- 2. predictions

    private static void firstCounters() {
        about("2: Each address has a counter from 0 to 3, at first 1");
        TraceCache x = new TraceCache();
        for (int i = 0; i < 48; i++) {
            int a = i;
            due("instruction(" + a + ", 5)", 1, () -> x.instruction(a, 5));
        }
    }

    private static void dueCounter(TraceCache x, int counter, int predicted) {
        due("counter", counter, () -> x.instruction(0, 5));
        due("predicted successor with the counter " + counter, predicted, () -> x.instruction(0, 6));
    }

    private static void predictedFromTwo() {
        about("2: A branch is predicted as taken if the counter of its address is at least 2");
        TraceCache x = new TraceCache();
        writeTaken(x, 0, 24, 1);
        dueCounter(x, 1, 1);
        execute(x, 0);
        dueCounter(x, 2, 24);
        execute(x, 0);
        dueCounter(x, 3, 24);
        x.setPattern(0, 0, 1);
        execute(x, 0);
        dueCounter(x, 2, 24);
        execute(x, 0);
        dueCounter(x, 1, 1);
        execute(x, 0);
        dueCounter(x, 0, 1);
    }

    private static void othersArePredicted() {
        about("2: the predicted successor of another instruction is its successor");
        TraceCache x = new TraceCache();
        writeTaken(x, 0, 24, 3);
        x.write(0, PLAIN, 24);
        dueCounter(x, 3, 1);
        x.jumpTo(0);
        dueNext(x, -1, 4, 0, 0, 1, 2, 3);
        due("count(4)", 1, () -> x.count(4));
        x.run(1);
        due("count(4) stays", 1, () -> x.count(4));
        due("counter of a plain instruction stays", 3, () -> x.instruction(0, 5));
        TraceCache jump = new TraceCache();
        jump.write(0, BRANCH, 24);
        execute(jump, 0);
        jump.write(0, JUMP, 24);
        dueCounter(jump, 0, 24);
        jump.jumpTo(0);
        dueNext(jump, -1, 1, 0, 0);
        jump.run(1);
        due("counter of a jump stays", 0, () -> jump.instruction(0, 5));
        due("count(4)", 0, () -> jump.count(4));
    }

    private static void counterNotAboveThree() {
        about("2: its counter increases by 1 if it was taken, but not above 3");
        TraceCache x = new TraceCache();
        writeTaken(x, 0, 24, 3);
        dueCounter(x, 3, 24);
        execute(x, 0);
        dueCounter(x, 3, 24);
        execute(x, 0);
        dueCounter(x, 3, 24);
        x.setPattern(0, 0, 1);
        execute(x, 0);
        dueCounter(x, 2, 24);
    }

    private static void counterNotBelowZero() {
        about("2: and decreases by 1 otherwise, but not below 0");
        TraceCache x = new TraceCache();
        x.write(0, BRANCH, 24);
        execute(x, 0);
        dueCounter(x, 0, 1);
        execute(x, 0);
        dueCounter(x, 0, 1);
        execute(x, 0);
        dueCounter(x, 0, 1);
        x.setPattern(0, 1, 1);
        execute(x, 0);
        dueCounter(x, 1, 1);
    }

    private static void notExecutedNotTaught() {
        about("2: When a branch has been executed, its counter increases by 1 if it was taken, and decreases by 1 "
            + "otherwise");
        TraceCache x = new TraceCache();
        writeTaken(x, 0, 24, 1);
        writeTaken(x, 1, 24, 1);
        x.write(2, BRANCH, 24);
        dueNext(x, -1, 1, 1, 0, 1, 2, 3);
        x.run(1);
        due("counter of the executed branch", 2, () -> x.instruction(0, 5));
        due("counter of a thrown away branch that would be taken", 1, () -> x.instruction(1, 5));
        due("counter of a thrown away branch that would not be", 1, () -> x.instruction(2, 5));
    }

    // ---- 3. lines

    private static void setsAndWays() {
        about("3: There are four sets, numbered 0 to 3, with two ways each, numbered 0 and 1");
        TraceCache x = fullOfLines();
        for (int start = 0; start < 8; start++) {
            int set = start % 4;
            int way = start / 4;
            due("line(" + set + ", " + way + ", 3)", start, () -> x.line(set, way, 3));
        }
        for (int bad : new int[] {-1, 4}) {
            due("line(" + bad + ", 0, 3)", INDEX, () -> x.line(bad, 0, 3));
        }
        for (int bad : new int[] {-1, 2}) {
            due("line(0, " + bad + ", 3)", INDEX, () -> x.line(0, bad, 3));
        }
        due("lines()", 8, () -> x.lines());
    }

    private static void emptyWays() {
        about("3: A way is empty (at first) or holds a line");
        TraceCache x = new TraceCache();
        for (int i = 0; i < 8; i++) {
            dueEmpty(x, i / 2, i % 2);
        }
        x.run(2);
        for (int i = 1; i < 8; i++) {
            dueEmpty(x, i / 2, i % 2);
        }
        dueLine(x, 0, 0, 1, 8, 0, 1, 2, 3, 4, 5, 6, 7);
        x.flush();
        dueEmpty(x, 0, 0);
    }

    private static void longestLine() {
        about("3: A line is a sequence of 1 to 8 addresses");
        TraceCache x = new TraceCache();
        x.run(3);
        dueLine(x, 0, 0, 1, 8, 0, 1, 2, 3, 4, 5, 6, 7);
        duePending(x, 8, 9, 10, 11);
        TraceCache shortest = new TraceCache();
        writeTaken(shortest, 0, 0, 1);
        shortest.run(3);
        dueLine(shortest, 0, 0, 1, 3, 0, 0, 0);
    }

    private static void setOfTheStart() {
        about("3: A line with the start a is in the set a modulo 4");
        for (int a = 0; a < 48; a++) {
            TraceCache x = new TraceCache();
            int start = a;
            x.jumpTo(start);
            x.run(2);
            due("line(" + a % 4 + ", 0, 3)", start, () -> x.line(start % 4, 0, 3));
            due("lines()", 1, () -> x.lines());
        }
    }

    private static void useNumbersAscend() {
        about("3: use numbers are given in ascending order, from 1 on");
        TraceCache x = new TraceCache();
        x.run(2);
        due("the first use number", 1, () -> x.line(0, 0, 2));
        x.run(2);
        due("the second use number", 2, () -> x.line(0, 1, 2));
        x.flush();
        x.run(2);
        due("the use number after lines were dropped", 3, () -> x.line(0, 0, 2));
        x.jumpTo(16);
        x.run(1);
        due("the use number after a fetch and a storing", 5, () -> x.line(0, 0, 2));
        x.undo();
        due("the use number after undo", 3, () -> x.line(0, 0, 2));
        x.jumpTo(17);
        x.run(2);
        due("the use number behind undo", 4, () -> x.line(1, 0, 2));
    }

    /** A line 0 to 7 with a branch to 24 that was not taken, but is predicted as taken in the end. */
    private static TraceCache lineLeftAt(int branch) {
        TraceCache x = new TraceCache();
        x.write(branch, BRANCH, 24);
        x.run(2);
        x.setPattern(branch, 1, 1);
        for (int i = 0; i < 2; i++) {
            execute(x, branch);
        }
        return x;
    }

    private static void usablePart() {
        about("3: The usable part of a line is the longest sequence from its start on in which each address but the "
            + "first one is the predicted successor of the address before it");
        for (int branch = 0; branch < 8; branch++) {
            TraceCache x = lineLeftAt(branch);
            int usable = branch + 1;
            due("usable part up to " + branch, usable, () -> x.line(0, 0, 1));
            x.jumpTo(0);
            due("nextFetch(0)", 0, () -> x.nextFetch(0));
            due("nextFetch(1)", usable, () -> x.nextFetch(1));
            due("nextFetch(2)", usable, () -> x.nextFetch(2));
            due("nextFetch(3)", 0, () -> x.nextFetch(3));
            due("run(1)", usable, () -> x.run(1));
            due("programCounter()", 24, () -> x.programCounter());
        }
        TraceCache wrap = new TraceCache();
        wrap.jumpTo(43);
        wrap.run(2);
        dueLine(wrap, 3, 0, 1, 8, 43, 44, 45, 46, 47, 0, 1, 2);
    }

    // ---- 4. a fetch

    private static void longestUsablePart() {
        about("4a: the one with the longest usable part is taken");
        TraceCache x = twoFromZero();
        dueNext(x, 1, 2, 1, 0, 1, 2, 3, 4, 5, 6, 7);
        x.setPattern(1, 1, 1);
        execute(x, 1);
        x.jumpTo(0);
        dueNext(x, 0, 8, 0, 0, 1, 10, 11, 12, 13, 14, 15);
    }

    /**
     * Lines 0, 1, 2, 3, 20 to 23 in the way 0 and 0 to 7 in the way 1, both usable up to the branch at 1, which is
     * predicted as taken; the use number in the way 1 is the higher one. The program counter is 0.
     */
    private static TraceCache sameUsableParts() {
        TraceCache x = new TraceCache();
        x.write(1, BRANCH, 30);
        x.write(3, BRANCH, 20);
        x.setPattern(3, 1, 2);
        x.run(2);
        x.jumpTo(0);
        x.run(3);
        x.setPattern(1, 1, 1);
        for (int i = 0; i < 2; i++) {
            execute(x, 1);
        }
        x.jumpTo(0);
        return x;
    }

    private static void sameLength() {
        about("4a: of two with the same length the one in the way with the lower number");
        TraceCache x = sameUsableParts();
        dueLine(x, 0, 0, 2, 2, 0, 1, 2, 3, 20, 21, 22, 23);
        dueLine(x, 0, 1, 3, 2, 0, 1, 2, 3, 4, 5, 6, 7);
        dueNext(x, 0, 2, 0, 0, 1);
        x.run(1);
        due("use number in the way 0", 4, () -> x.line(0, 0, 2));
        due("use number in the way 1", 3, () -> x.line(0, 1, 2));
        x.jumpTo(0);
        dueNext(x, 0, 2, 0, 0, 1);
    }

    private static void otherStart() {
        about("4a: If there are lines whose start is the program counter");
        TraceCache x = new TraceCache();
        x.run(2);
        x.jumpTo(4);
        dueNext(x, -1, 4, 0, 4, 5, 6, 7);
        x.jumpTo(0);
        dueNext(x, 0, 8, 0, 0, 1, 2, 3, 4, 5, 6, 7);
        x.flush();
        dueNext(x, -1, 4, 0, 0, 1, 2, 3);
    }

    private static void nextUseNumber() {
        about("4a: it gets the next use number");
        TraceCache x = twoFromZero();
        x.run(1);
        due("use number of the line that was taken", 4, () -> x.line(0, 1, 2));
        due("use number of the other one", 2, () -> x.line(0, 0, 2));
        due("count(7)", 2, () -> x.count(7));
    }

    private static int[] upTo(int last) {
        int[] addresses = new int[last + 1];
        for (int i = 0; i <= last; i++) {
            addresses[i] = i;
        }
        return addresses;
    }

    private static void fourFromMemory() {
        about("4a: each further one at the address after the one before it, until four are fetched");
        TraceCache x = new TraceCache();
        dueNext(x, -1, 4, 0, 0, 1, 2, 3);
        x.write(4, JUMP, 20);
        dueNext(x, -1, 4, 0, 0, 1, 2, 3);
        due("run(1)", 4, () -> x.run(1));
        x.jumpTo(47);
        dueNext(x, -1, 4, 0, 47, 0, 1, 2);
    }

    private static void memoryUpToAJump() {
        about("4a: or one is fetched that is a jump");
        for (int last = 0; last < 4; last++) {
            for (int target : new int[] {20, last + 1, last}) {
                TraceCache x = new TraceCache();
                x.write(last, JUMP, target);
                dueNext(x, -1, last + 1, 0, upTo(last));
                due("run(1)", last + 1, () -> x.run(1));
                due("programCounter()", target, () -> x.programCounter());
            }
        }
    }

    private static void memoryUpToAPredictedBranch() {
        about("4a: or one is fetched that is a jump or a branch that is predicted as taken");
        for (int last = 0; last < 4; last++) {
            for (int target : new int[] {20, last + 1}) {
                TraceCache x = new TraceCache();
                writeTaken(x, last, target, 2);
                x.jumpTo(0);
                dueNext(x, -1, last + 1, 0, upTo(last));
                x.setPattern(last, 0, 1);
                dueNext(x, -1, last + 1, 1, upTo(last));
                due("run(1)", last + 1, () -> x.run(1));
                x.jumpTo(0);
                dueNext(x, -1, 4, 0, 0, 1, 2, 3);
            }
        }
    }

    private static void thrownAway() {
        about("4b: As soon as one is not, it and all instructions behind it are thrown away");
        for (int branch = 0; branch < 4; branch++) {
            for (int target : new int[] {24, branch + 2, branch, 47}) {
                TraceCache x = new TraceCache();
                writeTaken(x, branch, target, 1);
                dueNext(x, -1, branch + 1, 1, 0, 1, 2, 3);
                due("run(1)", branch + 1, () -> x.run(1));
                dueCounts(x, 4, 1, branch + 1, 3 - branch, 1, 0, 0, 0, 0, 0);
                duePending(x, upTo(branch));
            }
        }
        TraceCache x = new TraceCache();
        x.write(0, BRANCH, 24);
        x.run(2);
        x.setPattern(0, 1, 1);
        x.jumpTo(0);
        dueNext(x, 0, 1, 1, 0, 1, 2, 3, 4, 5, 6, 7);
        x.run(1);
        due("count(3), seven of a line", 7, () -> x.count(3));
    }

    private static void firstIsExecuted() {
        about("4b: the first one always");
        for (int start : new int[] {0, 5, 47}) {
            TraceCache x = new TraceCache();
            x.write(start, JUMP, start);
            x.jumpTo(start);
            dueNext(x, -1, 1, 0, start);
            due("run(1)", 1, () -> x.run(1));
        }
    }

    private static void behindTheLast() {
        about("4b: The program counter becomes the successor of the last instruction that is executed");
        TraceCache x = new TraceCache();
        writeTaken(x, 3, 30, 1);
        dueNext(x, -1, 4, 1, 0, 1, 2, 3);
        due("run(1) with a misprediction at its end", 4, () -> x.run(1));
        due("programCounter()", 30, () -> x.programCounter());
        dueCounts(x, 4, 1, 4, 0, 1, 0, 0, 0, 0, 0);
        TraceCache last = new TraceCache();
        last.jumpTo(44);
        last.run(1);
        due("programCounter() behind 47", 0, () -> last.programCounter());
    }

    private static void timeOfMispredictions() {
        about("4c: The time increases by 1, and by 3 more for each executed branch that was not taken as predicted");
        for (int branches = 0; branches <= 4; branches++) {
            TraceCache x = new TraceCache();
            for (int i = 0; i < branches; i++) {
                writeTaken(x, i, i + 1, 1);
            }
            dueNext(x, -1, 4, branches, 0, 1, 2, 3);
            due("run(1)", 4, () -> x.run(1));
            due("count(0) with " + branches, 1 + 3 * branches, () -> x.count(0));
            due("count(4) with " + branches, branches, () -> x.count(4));
        }
        TraceCache away = new TraceCache();
        writeTaken(away, 0, 24, 1);
        writeTaken(away, 1, 24, 1);
        away.run(1);
        due("count(0) with a branch that is thrown away", 4, () -> away.count(0));
    }

    /** A branch at 6 to the jump behind it stands three times in a line; its counter goes from 0 to 3. */
    private static void predictionsOfTheBeginning() {
        about("4: All predictions in it are those by the counters as they are when it begins");
        TraceCache x = new TraceCache();
        x.write(6, BRANCH, 7);
        x.write(7, JUMP, 6);
        x.jumpTo(6);
        x.run(3);
        x.setPattern(6, 1, 1);
        dueNext(x, 0, 5, 3, 6, 7, 6, 7, 6);
        due("run(1)", 5, () -> x.run(1));
        due("counter", 3, () -> x.instruction(6, 5));
        due("count(4)", 3, () -> x.count(4));
    }

    // ---- 5. the pending line

    private static void pendingAtFirst() {
        about("5: The pending line is a sequence of addresses, empty at first");
        duePending(new TraceCache());
    }

    private static void executedIsAdded() {
        about("5: Each instruction that is executed is added to it");
        TraceCache x = new TraceCache();
        writeTaken(x, 1, 47, 1);
        x.run(1);
        duePending(x, 0, 1);
        x.run(1);
        duePending(x, 0, 1, 47, 0, 1);
    }

    private static void eightAddresses() {
        about("5: When it has eight addresses, it is stored, and the pending line is empty again");
        TraceCache x = new TraceCache();
        x.write(6, JUMP, 30);
        due("run(2)", 7, () -> x.run(2));
        duePending(x, 0, 1, 2, 3, 4, 5, 6);
        due("lines() with seven pending", 0, () -> x.lines());
        x.run(1);
        dueLine(x, 0, 0, 1, 8, 0, 1, 2, 3, 4, 5, 6, 30);
        duePending(x, 31, 32, 33);
        TraceCache just = new TraceCache();
        just.run(2);
        dueLine(just, 0, 0, 1, 8, 0, 1, 2, 3, 4, 5, 6, 7);
        duePending(just);
    }

    private static void threeBranches() {
        about("5: or three of its instructions are branches, it is stored");
        TraceCache two = new TraceCache();
        two.write(0, BRANCH, 9);
        two.write(3, BRANCH, 9);
        two.run(1);
        due("lines() with two branches", 0, () -> two.lines());
        duePending(two, 0, 1, 2, 3);
        TraceCache x = new TraceCache();
        for (int i = 0; i < 3; i++) {
            x.write(i, BRANCH, 9);
        }
        x.run(1);
        dueLine(x, 0, 0, 1, 3, 0, 1, 2);
        duePending(x, 3);
        TraceCache same = new TraceCache();
        writeTaken(same, 0, 0, 1);
        same.run(2);
        due("lines() with the same branch twice", 0, () -> same.lines());
        same.run(1);
        dueLine(same, 0, 0, 1, 3, 0, 0, 0);
        TraceCache jumps = new TraceCache();
        for (int i = 0; i < 3; i++) {
            jumps.write(i, JUMP, i + 1);
        }
        jumps.run(3);
        due("lines() with three jumps", 0, () -> jumps.lines());
        duePending(jumps, 0, 1, 2);
    }

    private static void eighthIsThirdBranch() {
        about("5: When it has eight addresses, or three of its instructions are branches");
        TraceCache x = new TraceCache();
        for (int branch : new int[] {0, 4, 7}) {
            x.write(branch, BRANCH, 30);
        }
        x.run(2);
        dueLine(x, 0, 0, 1, 8, 0, 1, 2, 3, 4, 5, 6, 7);
        due("lines(), stored once", 1, () -> x.lines());
        due("count(7)", 1, () -> x.count(7));
        duePending(x);
        TraceCache seventh = new TraceCache();
        for (int branch : new int[] {0, 4, 6}) {
            seventh.write(branch, BRANCH, 30);
        }
        seventh.run(2);
        dueLine(seventh, 0, 0, 1, 7, 0, 1, 2, 3, 4, 5, 6);
        duePending(seventh, 7);
    }

    private static void storedAgain() {
        about("5: if a line with the same addresses is in the set of its start, this line gets the next use number");
        TraceCache x = twoLines();
        x.jumpTo(0);
        x.run(1);
        due("use number", 4, () -> x.line(0, 0, 2));
        due("count(7)", 2, () -> x.count(7));
        due("count(8)", 0, () -> x.count(8));
        x.run(1);
        due("use number in the way 1", 6, () -> x.line(0, 1, 2));
        due("count(7)", 2, () -> x.count(7));
        due("lines()", 2, () -> x.lines());
        TraceCache one = new TraceCache();
        one.run(2);
        one.jumpTo(0);
        one.run(1);
        dueLine(one, 0, 0, 3, 8, 0, 1, 2, 3, 4, 5, 6, 7);
        due("lines(), not put beside itself", 1, () -> one.lines());
        TraceCache memory = storedFromMemory();
        dueLine(memory, 2, 0, 4, 8, 46, 47, 0, 1, 2, 3, 4, 5);
        dueCounts(memory, 9, 9, 34, 0, 0, 0, 0, 3, 0, 0);
    }

    /** In the set 2 the line 46 to 5, stored twice, never fetched from, is in the way 0, and 18 to 25 in the way 1. */
    private static TraceCache storedFromMemory() {
        TraceCache x = new TraceCache();
        x.write(30, JUMP, 44);
        for (int start : new int[] {46, 18}) {
            x.jumpTo(start);
            x.run(2);
        }
        x.jumpTo(25);
        x.run(5);
        return x;
    }

    private static void differentAtTheEnd() {
        about("5: Otherwise a line with these addresses and the next use number is put into a way of this set");
        TraceCache x = new TraceCache();
        x.write(6, BRANCH, 24);
        x.setPattern(6, 1, 2);
        x.run(3);
        dueLine(x, 0, 0, 1, 8, 0, 1, 2, 3, 4, 5, 6, 24);
        x.jumpTo(0);
        x.run(2);
        dueLine(x, 0, 1, 3, 8, 0, 1, 2, 3, 4, 5, 6, 7);
        due("lines() that differ in the eighth address", 2, () -> x.lines());
        TraceCache first = new TraceCache();
        for (int start : new int[] {0, 4}) {
            first.write(start, JUMP, 20);
            first.jumpTo(start);
            first.run(3);
        }
        dueLine(first, 0, 0, 1, 8, 0, 20, 21, 22, 23, 24, 25, 26);
        dueLine(first, 0, 1, 2, 8, 4, 20, 21, 22, 23, 24, 25, 26);
        due("lines() that differ in the first address", 2, () -> first.lines());
    }

    private static void lowerEmptyWay() {
        about("5: the empty way with the lower number");
        TraceCache x = twoLines();
        x.flush();
        x.run(2);
        dueLine(x, 0, 0, 3, 8, 16, 17, 18, 19, 20, 21, 22, 23);
        dueEmpty(x, 0, 1);
        TraceCache first = twoLines();
        first.write(0, PLAIN, 0);
        first.run(2);
        dueLine(first, 0, 0, 3, 8, 16, 17, 18, 19, 20, 21, 22, 23);
        dueLine(first, 0, 1, 2, 8, 8, 9, 10, 11, 12, 13, 14, 15);
        TraceCache second = twoLines();
        second.write(8, PLAIN, 0);
        second.run(2);
        dueLine(second, 0, 0, 1, 8, 0, 1, 2, 3, 4, 5, 6, 7);
        dueLine(second, 0, 1, 3, 8, 16, 17, 18, 19, 20, 21, 22, 23);
        due("count(8)", 0, () -> first.count(8) + second.count(8));
    }

    private static void lowerUseNumber() {
        about("5: or if there is none, the way whose line has the lower use number; that line is replaced");
        TraceCache x = twoLines();
        x.run(2);
        dueLine(x, 0, 0, 3, 8, 16, 17, 18, 19, 20, 21, 22, 23);
        dueLine(x, 0, 1, 2, 8, 8, 9, 10, 11, 12, 13, 14, 15);
        dueCounts(x, 6, 6, 24, 0, 0, 0, 0, 3, 1, 0);
        x.run(2);
        dueLine(x, 0, 0, 3, 8, 16, 17, 18, 19, 20, 21, 22, 23);
        dueLine(x, 0, 1, 4, 8, 24, 25, 26, 27, 28, 29, 30, 31);
        due("count(8)", 2, () -> x.count(8));
        TraceCache used = twoLines();
        execute(used, 0);
        used.jumpTo(16);
        used.run(2);
        dueLine(used, 0, 0, 4, 8, 0, 1, 2, 3, 4, 5, 6, 7);
        dueLine(used, 0, 1, 5, 8, 16, 17, 18, 19, 20, 21, 22, 23);
        TraceCache stored = storedFromMemory();
        stored.jumpTo(34);
        stored.run(2);
        dueLine(stored, 2, 0, 4, 8, 46, 47, 0, 1, 2, 3, 4, 5);
        dueLine(stored, 2, 1, 5, 8, 34, 35, 36, 37, 38, 39, 40, 41);
        TraceCache fetched = twoFromZero();
        execute(fetched, 0);
        execute(fetched, 0);
        fetched.jumpTo(16);
        fetched.run(2);
        dueLine(fetched, 0, 0, 5, 2, 0, 1, 10, 11, 12, 13, 14, 15);
        dueLine(fetched, 0, 1, 6, 8, 16, 17, 18, 19, 20, 21, 22, 23);
        TraceCache full = fullOfLines();
        full.jumpTo(10);
        full.run(2);
        dueLine(full, 2, 0, 9, 8, 10, 11, 12, 13, 14, 15, 16, 17);
        due("lines() of a full cache", 8, () -> full.lines());
    }

    // ---- 6. writing code

    private static void droppedLines() {
        about("6: all lines that contain its address are dropped (their ways are empty)");
        int[][] each = {{0, 1}, {1, 2}, {7, 8}, {8, 7}, {14, 1}, {15, 0}, {47, 0}};
        for (int[] pair : each) {
            TraceCache x = fullOfLines();
            due("write(" + pair[0] + ", PLAIN, 0)", pair[1], () -> x.write(pair[0], PLAIN, 0));
            due("lines()", 8 - pair[1], () -> x.lines());
            due("linesWith(" + pair[0] + ")", 0, () -> x.linesWith(pair[0]));
            due("count(9)", pair[1], () -> x.count(9));
            for (int start = 0; start < 8; start++) {
                int set = start % 4;
                int way = start / 4;
                boolean stays = pair[0] < start || pair[0] > start + 7;
                due("the line from " + start + " on", stays ? start : -1, () -> x.line(set, way, 3));
            }
        }
        TraceCache often = new TraceCache();
        writeTaken(often, 0, 0, 1);
        often.run(3);
        due("write to a line that has the address three times", 1, () -> often.write(0, PLAIN, 0));
        due("count(9)", 1, () -> often.count(9));
    }

    private static void pendingIsDropped() {
        about("6: and the pending line becomes empty if it contains the address");
        for (int address = 0; address < 6; address++) {
            TraceCache x = new TraceCache();
            x.jumpTo(1);
            x.run(1);
            int written = address;
            due("write(" + address + ", PLAIN, 0)", 0, () -> x.write(written, PLAIN, 0));
            if (address == 0 || address == 5) {
                duePending(x, 1, 2, 3, 4);
            } else {
                duePending(x);
            }
            due("programCounter()", 5, () -> x.programCounter());
            x.run(1);
            due("pending(0), gone on with", written == 0 || written == 5 ? -1 : 5, () -> x.pending(0));
            due("pending(3), gone on with", written == 0 || written == 5 ? -1 : 8, () -> x.pending(3));
            due("lines()", written == 0 || written == 5 ? 1 : 0, () -> x.lines());
        }
        TraceCache x = new TraceCache();
        x.run(1);
        x.run(1);
        due("write to an address that was pending", 1, () -> x.write(0, PLAIN, 0));
        x.run(1);
        due("write to an address before the pending line", 0, () -> x.write(7, PLAIN, 0));
        duePending(x, 8, 9, 10, 11);
        due("write to an address behind the pending line", 0, () -> x.write(12, PLAIN, 0));
        duePending(x, 8, 9, 10, 11);
    }

    private static void writtenKeeps() {
        about("6: The counter, the pattern and the outcome count of the address do not change");
        for (int kind = PLAIN; kind <= BRANCH; kind++) {
            TraceCache x = new TraceCache();
            x.write(0, BRANCH, 24);
            x.setPattern(0, 131, 8);
            execute(x, 0);
            execute(x, 0);
            int written = kind;
            due("write(0, " + kind + ", 5)", 0, () -> x.write(0, written, 5));
            due("counter", 3, () -> x.instruction(0, 5));
            duePattern(x, 0, 131, 8, 2);
        }
    }

    // ---- 8. state, undo

    private static void savedThoughNothingChanges() {
        about("8: It is saved even if the call changes nothing");
        due("write", 1, () -> {
            TraceCache x = new TraceCache();
            x.write(0, PLAIN, 0);
            return x.savedStates();
        });
        due("setPattern", 1, () -> {
            TraceCache x = new TraceCache();
            x.setPattern(0, 0, 1);
            return x.savedStates();
        });
        due("jumpTo", 1, () -> {
            TraceCache x = new TraceCache();
            x.jumpTo(0);
            return x.savedStates();
        });
        due("flush", 1, () -> {
            TraceCache x = new TraceCache();
            x.flush();
            return x.savedStates();
        });
        due("runText", 1, () -> {
            TraceCache x = typed("0.");
            x.runText();
            return x.savedStates();
        });
    }

    private static void othersSaveNothing() {
        about("8: A method that is marked \"Undoable\" saves the state as it was before the call");
        TraceCache x = new TraceCache();
        x.appendText('r');
        x.appendText('1');
        x.errorPosition();
        x.clearText();
        x.programCounter();
        x.instruction(0, 0);
        x.willExecute(99);
        x.line(0, 0, 0);
        x.pending(0);
        x.lines();
        x.linesWith(0);
        x.nextFetch(2);
        x.wouldFetch(0);
        x.count(0);
        x.rate();
        due("savedStates() after calls that are not undoable", 0, () -> x.savedStates());
        x.run(1);
        x.jumpTo(9);
        x.undo();
        due("savedStates(), undo saves nothing", 1, () -> x.savedStates());
        due("programCounter()", 4, () -> x.programCounter());
    }

    private static void sixStates() {
        about("8: At most 6 states are saved; when a seventh state is saved, the oldest saved state is discarded");
        for (int saved = 0; saved <= 20; saved++) {
            TraceCache x = new TraceCache();
            for (int i = 1; i <= saved; i++) {
                x.jumpTo(i);
            }
            int kept = Math.min(saved, 6);
            due("savedStates() after " + saved, kept, () -> x.savedStates());
            for (int i = 1; i <= kept; i++) {
                int left = kept - i;
                int restored = saved - i;
                due("undo() of " + saved, left, () -> x.undo());
                due("programCounter()", restored, () -> x.programCounter());
            }
            due("undo() of no saved state", STATE, () -> x.undo());
            due("savedStates()", 0, () -> x.savedStates());
        }
    }

    public static void main(String[] args) {
        addresses();
        afterTheLastAddress();
        allPlain();
        jumpsAtTheEnds();
        branchesAtTheLast();
        patternLengths();
        firstPatterns();
        patternsWrap();
        outcomeCounts();
        firstProgramCounter();
        firstCounters();
        predictedFromTwo();
        othersArePredicted();
        counterNotAboveThree();
        counterNotBelowZero();
        notExecutedNotTaught();
        setsAndWays();
        emptyWays();
        longestLine();
        setOfTheStart();
        useNumbersAscend();
        usablePart();
        longestUsablePart();
        sameLength();
        otherStart();
        nextUseNumber();
        fourFromMemory();
        memoryUpToAJump();
        memoryUpToAPredictedBranch();
        thrownAway();
        firstIsExecuted();
        behindTheLast();
        timeOfMispredictions();
        predictionsOfTheBeginning();
        pendingAtFirst();
        executedIsAdded();
        eightAddresses();
        threeBranches();
        eighthIsThirdBranch();
        storedAgain();
        differentAtTheEnd();
        lowerEmptyWay();
        lowerUseNumber();
        droppedLines();
        pendingIsDropped();
        writtenKeeps();
        savedThoughNothingChanges();
        othersSaveNothing();
        sixStates();
        end("TermsEdgesTest");
    }
}
