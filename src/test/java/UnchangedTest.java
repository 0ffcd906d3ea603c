import java.util.concurrent.Callable;
import java.util.function.Consumer;

/**
 * What changes nothing: calls that are refused (section 9), queries, and a call together with its undo (section 8).
 * Each is tried on objects in several states, and all that can be asked is compared.
 */
public final class UnchangedTest extends Dues {
    private static final int JUMP = TraceCache.JUMP, BRANCH = TraceCache.BRANCH;

    private static String state = "";
    private static Consumer<TraceCache> making = x -> { };

    /** A call that has to be given the object. */
    private interface Call {
        Object on(TraceCache x) throws Exception;
    }

    // ---- the states

    private static void fresh(TraceCache x) {
        // A new object is taken as it is.
    }

    /** Branches at the addresses 0 and 47 that lead to one another, now and then. */
    private static void atTheEnds(TraceCache x) {
        for (int edge : new int[] {0, 47}) {
            x.write(edge, BRANCH, 47 - edge);
            x.setPattern(edge, 183, 8);
        }
        x.run(2);
    }

    /** One way is empty, the next fetch takes a line, and the pending line has four addresses. */
    private static void busy(TraceCache x) {
        x.write(1, BRANCH, 10);
        x.setPattern(1, 1, 2);
        x.write(14, JUMP, 0);
        x.run(19);
        type(x, "1p110;r5;40b3;r2");
    }

    /** All ways full, six saved states, a pending line of seven addresses, a text of 80 characters. */
    private static void full(TraceCache x) {
        for (int start = 0; start < 8; start++) {
            x.jumpTo(start);
            x.run(2);
        }
        x.write(22, JUMP, 40);
        x.jumpTo(16);
        x.run(2);
        type(x, "r1;".repeat(26) + "r2");
    }

    /** A text of 80 characters that ends too early, and the one saved state that five undos leave of six. */
    private static void undone(TraceCache x) {
        busy(x);
        for (int i = 0; i < 6; i++) {
            x.setPattern(40, i, 8);
        }
        for (int i = 0; i < 5; i++) {
            x.undo();
        }
        x.clearText();
        type(x, "r99;".repeat(20));
    }

    /** The tests below would say little if the states were not what they are told to be. */
    private static void dueStates() {
        about("the states that are compared");
        dueState("busy", UnchangedTest::busy, 4, 16, 7, 4);
        dueState("full", UnchangedTest::full, 6, 80, 8, 7);
        dueState("undone", UnchangedTest::undone, 1, 80, 7, 4);
        TraceCache x = new TraceCache();
        busy(x);
        due("the way that the next fetch takes when busy", 0, () -> x.nextFetch(0));
        due("a flush can be seen after an undo", false, () -> Portrait.difference(UnchangedTest::busy,
            y -> {
                y.flush();
                busy(y);
            }).equals("none"));
        due("errorPosition() when busy", -1, () -> x.errorPosition());
    }

    private static void dueState(String name, Consumer<TraceCache> calls, int saved, int text, int lines, int pending) {
        TraceCache x = new TraceCache();
        calls.accept(x);
        due("savedStates() when " + name, saved, () -> x.savedStates());
        due("textLength() when " + name, text, () -> x.textLength());
        due("lines() when " + name, lines, () -> x.lines());
        due("the last address of the pending line when " + name, true, () -> x.pending(pending - 1) >= 0);
        due("pending(" + pending + ") when " + name, -1, () -> x.pending(pending));
    }

    private static void inEachState(Runnable test) {
        in("a new object", UnchangedTest::fresh, test);
        in("a busy object", UnchangedTest::busy, test);
        in("a full object", UnchangedTest::full, test);
        in("an object with branches at both ends", UnchangedTest::atTheEnds, test);
        in("an object after undo", UnchangedTest::undone, test);
    }

    private static void in(String name, Consumer<TraceCache> calls, Runnable test) {
        state = name;
        making = calls;
        test.run();
    }

    // ---- 9. refused calls

    private static void refused(String name, String exception, Call call) {
        about("9: A call that throws an exception changes nothing, " + state);
        thrown(name, exception, call);
    }

    private static void firstNamed(String name, String exception, Call call) {
        about("9: the one that is named first in the throws clause of the method is thrown, " + state);
        thrown(name, exception, call);
    }

    /** The call throws what is due, and afterwards each answer is the one that it would have been. */
    private static void thrown(String name, String exception, Call call) {
        TraceCache x = new TraceCache();
        making.accept(x);
        due(name, exception, () -> call.on(x));
        same(name, call);
    }

    private static void same(String name, Call call) {
        due("what " + name + " changes", "none",
            () -> Portrait.difference(making, making.andThen(x -> Check.answer(() -> call.on(x)))));
    }

    private static void refusedChanges() {
        for (int bad : NO_ADDRESSES) {
            refused("write(" + bad + ", 1, 5)", INDEX, x -> x.write(bad, 1, 5));
            refused("write(5, 1, " + bad + ")", INDEX, x -> x.write(5, 1, bad));
            refused("write(5, 0, " + bad + ")", INDEX, x -> x.write(5, 0, bad));
            refused("setPattern(" + bad + ", 1, 1)", INDEX, x -> x.setPattern(bad, 1, 1));
            refused("jumpTo(" + bad + ")", INDEX, x -> x.jumpTo(bad));
        }
        for (int bad : new int[] {-1, 3}) {
            refused("write(5, " + bad + ", 5)", ARGUMENT, x -> x.write(5, bad, 5));
        }
        for (int bad : new int[] {-1, 0, 9, 33}) {
            refused("setPattern(1, 1, " + bad + ")", ARGUMENT, x -> x.setPattern(1, 1, bad));
        }
        for (int length : new int[] {1, 7, 8}) {
            refused("setPattern(1, too much, " + length + ")", ARGUMENT, x -> x.setPattern(1, 1 << length, length));
            refused("setPattern(1, -1, " + length + ")", ARGUMENT, x -> x.setPattern(1, -1, length));
        }
        for (int bad : new int[] {-1, 0, 100, Integer.MIN_VALUE, Integer.MAX_VALUE}) {
            refused("run(" + bad + ")", ARGUMENT, x -> x.run(bad));
        }
        for (int bad : new int[] {-1, 31, 127, 255, 65536 + 'r'}) {
            refused("appendText(" + bad + ")", ARGUMENT, x -> x.appendText(bad));
        }
    }

    private static void refusedQueries() {
        for (int bad : NO_ADDRESSES) {
            refused("instruction(" + bad + ", 0)", INDEX, x -> x.instruction(bad, 0));
            refused("linesWith(" + bad + ")", INDEX, x -> x.linesWith(bad));
        }
        for (int bad : new int[] {-1, 100}) {
            refused("willExecute(" + bad + ")", INDEX, x -> x.willExecute(bad));
            refused("instruction(0, " + bad + ")", ARGUMENT, x -> x.instruction(0, bad));
            refused("line(" + bad + ", 0, 0)", INDEX, x -> x.line(bad, 0, 0));
            refused("line(0, " + bad + ", 0)", INDEX, x -> x.line(0, bad, 0));
            refused("line(0, 0, " + bad + ")", ARGUMENT, x -> x.line(0, 0, bad));
            refused("nextFetch(" + bad + ")", ARGUMENT, x -> x.nextFetch(bad));
            refused("count(" + bad + ")", ARGUMENT, x -> x.count(bad));
        }
        refused("pending(-1)", INDEX, x -> x.pending(-1));
        refused("wouldFetch(-1)", INDEX, x -> x.wouldFetch(-1));
    }

    /** Calls that only some states refuse. */
    private static void refusedByTheState() {
        in("a new object", UnchangedTest::fresh, () -> {
            refused("undo()", STATE, x -> x.undo());
            refused("runText() of an empty text", STATE, x -> x.runText());
        });
        in("a full object", UnchangedTest::full, () -> {
            refused("appendText(';')", STATE, x -> x.appendText(';'));
        });
        in("an object after undo", UnchangedTest::undone, () -> {
            refused("appendText('1')", STATE, x -> x.appendText('1'));
            refused("runText() of a text that ends too early", STATE, x -> x.runText());
        });
        in("an object with an error behind good commands", x -> {
            busy(x);
            type(x, ";0j9;r9;48.");
        }, () -> refused("runText()", STATE, x -> x.runText()));
        in("an object without saved states that has run", x -> {
            x.run(5);
            x.undo();
            type(x, "r4");
        }, () -> refused("undo()", STATE, x -> x.undo()));
    }

    private static void severalExceptions() {
        for (int bad : new int[] {-1, 48}) {
            for (int worse : new int[] {-1, 3}) {
                firstNamed("write(" + bad + ", " + worse + ", 0)", INDEX, x -> x.write(bad, worse, 0));
                firstNamed("write(0, " + worse + ", " + bad + ")", INDEX, x -> x.write(0, worse, bad));
                firstNamed("write(" + bad + ", " + worse + ", -1)", INDEX, x -> x.write(bad, worse, -1));
            }
            firstNamed("setPattern(" + bad + ", 0, 0)", INDEX, x -> x.setPattern(bad, 0, 0));
            firstNamed("setPattern(" + bad + ", 0, 9)", INDEX, x -> x.setPattern(bad, 0, 9));
            firstNamed("setPattern(" + bad + ", 2, 1)", INDEX, x -> x.setPattern(bad, 2, 1));
            firstNamed("setPattern(" + bad + ", -1, 1)", INDEX, x -> x.setPattern(bad, -1, 1));
            for (int part : new int[] {-1, 7}) {
                firstNamed("instruction(" + bad + ", " + part + ")", INDEX, x -> x.instruction(bad, part));
            }
            for (int part : new int[] {-1, 11}) {
                firstNamed("line(" + bad + ", 0, " + part + ")", INDEX, x -> x.line(bad, 0, part));
                firstNamed("line(0, " + bad + ", " + part + ")", INDEX, x -> x.line(0, bad, part));
                firstNamed("line(4, 2, " + part + ")", INDEX, x -> x.line(4, 2, part));
            }
        }
        firstNamed("setPattern(0, -1, 9)", ARGUMENT, x -> x.setPattern(0, -1, 9));
    }

    private static void wrongCharacterForAFullText() {
        for (int bad : new int[] {Integer.MIN_VALUE, -1, 31, 127, Integer.MAX_VALUE}) {
            firstNamed("appendText(" + bad + ")", ARGUMENT, x -> x.appendText(bad));
        }
    }

    // ---- queries, and calls that are not undoable

    private static void quiet(String name, Call call) {
        about("queries change nothing, " + state);
        same(name, call);
    }

    private static void queries() {
        for (int part = 0; part <= 6; part++) {
            int asked = part;
            quiet("instruction(1, " + part + ")", x -> x.instruction(1, asked));
        }
        quiet("programCounter()", x -> x.programCounter());
        quiet("willExecute(0)", x -> x.willExecute(0));
        quiet("willExecute(99)", x -> x.willExecute(99));
        for (int part = 0; part <= 10; part++) {
            int asked = part;
            quiet("line(0, 1, " + part + ")", x -> x.line(0, 1, asked));
        }
        quiet("pending(0)", x -> x.pending(0));
        quiet("pending(the highest)", x -> x.pending(Integer.MAX_VALUE));
        quiet("lines()", x -> x.lines());
        quiet("linesWith(7)", x -> x.linesWith(7));
        for (int part = 0; part <= 3; part++) {
            int asked = part;
            quiet("nextFetch(" + part + ")", x -> x.nextFetch(asked));
        }
        quiet("wouldFetch(0)", x -> x.wouldFetch(0));
        quiet("wouldFetch(the highest)", x -> x.wouldFetch(Integer.MAX_VALUE));
        for (int what = 0; what <= 9; what++) {
            int asked = what;
            quiet("count(" + what + ")", x -> x.count(asked));
        }
        quiet("rate()", x -> x.rate());
        quiet("savedStates()", x -> x.savedStates());
        quiet("textLength()", x -> x.textLength());
        quiet("errorPosition()", x -> x.errorPosition());
    }

    // ---- 8. undo

    /** Only in states with room for one more saved state, so that no older one is lost. */
    private static void undoneAgain(String name, Call call) {
        about("8: The state consists of everything in sections 1 to 6 and the counts, " + state);
        same(name + " and undo()", x -> {
            call.on(x);
            return x.undo();
        });
    }

    private static void undoableCalls() {
        undoneAgain("write(1, JUMP, 40)", x -> x.write(1, JUMP, 40));
        undoneAgain("write(31, BRANCH, 0)", x -> x.write(31, BRANCH, 0));
        undoneAgain("setPattern(1, 7, 4)", x -> x.setPattern(1, 7, 4));
        undoneAgain("write(0, JUMP, 40)", x -> x.write(0, JUMP, 40));
        undoneAgain("write(47, JUMP, 40)", x -> x.write(47, JUMP, 40));
        undoneAgain("setPattern(0, 8, 4)", x -> x.setPattern(0, 8, 4));
        undoneAgain("setPattern(47, 8, 4)", x -> x.setPattern(47, 8, 4));
        undoneAgain("jumpTo(0)", x -> x.jumpTo(0));
        undoneAgain("jumpTo(47)", x -> x.jumpTo(47));
        undoneAgain("run(1)", x -> x.run(1));
        undoneAgain("run(99)", x -> x.run(99));
        undoneAgain("flush()", x -> x.flush());
    }

    /** The text buffer is no part of the state. */
    private static void undoneText() {
        about("8: The state consists of everything in sections 1 to 6 and the counts");
        Callable<TraceCache> made = () -> {
            TraceCache x = typed("5j9;r4");
            x.runText();
            x.appendText(';');
            x.undo();
            return x;
        };
        due("textLength()", 7, () -> made.call().textLength());
        due("errorPosition()", 7, () -> made.call().errorPosition());
        due("the kind of 5", 0, () -> made.call().instruction(5, 0));
        due("what runText() and undo() change", "none", () -> Portrait.difference(
            x -> type(x, "5b9;5p011;r40;1.;r3"),
            x -> {
                type(x, "5b9;5p011;r40;1.;r3");
                x.runText();
                x.undo();
            }));
    }

    public static void main(String[] args) {
        dueStates();
        inEachState(UnchangedTest::refusedChanges);
        inEachState(UnchangedTest::refusedQueries);
        refusedByTheState();
        inEachState(UnchangedTest::severalExceptions);
        in("a full object", UnchangedTest::full, UnchangedTest::wrongCharacterForAFullText);
        inEachState(UnchangedTest::queries);
        in("a new object", UnchangedTest::fresh, UnchangedTest::undoableCalls);
        in("a busy object", UnchangedTest::busy, UnchangedTest::undoableCalls);
        in("an object with branches at both ends", UnchangedTest::atTheEnds, UnchangedTest::undoableCalls);
        in("a full object but for one saved state", x -> {
            full(x);
            x.undo();
        }, UnchangedTest::undoableCalls);
        undoneText();
        end("UnchangedTest");
    }
}
