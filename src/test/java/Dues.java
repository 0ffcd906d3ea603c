import java.util.concurrent.Callable;

/** What the tests with answers told by hand share: the ways to ask, and the objects that several of them start from. */
class Dues {
    static final String INDEX = "IndexOutOfBoundsException";
    static final String ARGUMENT = "IllegalArgumentException";
    static final String STATE = "IllegalStateException";
    static final int[] NO_ADDRESSES = {-1, 48, Integer.MIN_VALUE, Integer.MAX_VALUE};

    private static final Check check = new Check();
    private static String about = "";

    /** Says which promise or sentence of the document the calls that follow are due to. */
    static void about(String sentence) {
        about = sentence;
    }

    static void due(String call, Object want, Callable<?> got) {
        check.due(about + ": " + call, want, got);
    }

    static void end(String name) {
        check.end(name);
    }

    // ---- ways to ask

    static void dueLine(TraceCache x, int set, int way, int use, int usable, int... addresses) {
        String name = "line(" + set + ", " + way + ", ";
        due(name + "0)", addresses.length, () -> x.line(set, way, 0));
        due(name + "1)", usable, () -> x.line(set, way, 1));
        due(name + "2)", use, () -> x.line(set, way, 2));
        for (int i = 0; i < 8; i++) {
            int part = i + 3;
            due(name + part + ")", i < addresses.length ? addresses[i] : -1, () -> x.line(set, way, part));
        }
    }

    static void dueEmpty(TraceCache x, int set, int way) {
        for (int i = 0; i <= 10; i++) {
            int part = i;
            due("line(" + set + ", " + way + ", " + part + ") of an empty way", -1, () -> x.line(set, way, part));
        }
    }

    static void duePending(TraceCache x, int... addresses) {
        for (int i = 0; i < 8; i++) {
            int index = i;
            due("pending(" + i + ")", i < addresses.length ? addresses[i] : -1, () -> x.pending(index));
        }
    }

    static void dueNext(TraceCache x, int way, int executed, int mispredictions, int... fetched) {
        due("nextFetch(0)", way, () -> x.nextFetch(0));
        due("nextFetch(1)", fetched.length, () -> x.nextFetch(1));
        due("nextFetch(2)", executed, () -> x.nextFetch(2));
        due("nextFetch(3)", mispredictions, () -> x.nextFetch(3));
        for (int i = 0; i <= fetched.length; i++) {
            int index = i;
            due("wouldFetch(" + i + ")", i < fetched.length ? fetched[i] : -1, () -> x.wouldFetch(index));
        }
    }

    static void dueCounts(TraceCache x, int... counts) {
        for (int i = 0; i < counts.length; i++) {
            int what = i;
            due("count(" + i + ")", counts[i], () -> x.count(what));
        }
    }

    static void duePattern(TraceCache x, int address, int outcomes, int length, int outcomeCount) {
        due("instruction(" + address + ", 4)", outcomes, () -> x.instruction(address, 4));
        due("instruction(" + address + ", 3)", length, () -> x.instruction(address, 3));
        due("instruction(" + address + ", 2)", outcomeCount, () -> x.instruction(address, 2));
    }

    // ---- ways to prepare

    static void type(TraceCache x, String text) {
        for (int i = 0; i < text.length(); i++) {
            x.appendText(text.charAt(i));
        }
    }

    static TraceCache typed(String text) {
        TraceCache x = new TraceCache();
        type(x, text);
        return x;
    }

    /** Executes the instruction at an address, and what is fetched behind it. */
    static void execute(TraceCache x, int address) {
        x.jumpTo(address);
        x.run(1);
    }

    /** Makes a branch that is always taken and that has a counter as given, at least 1. */
    static void writeTaken(TraceCache x, int address, int target, int counter) {
        x.write(address, TraceCache.BRANCH, target);
        x.setPattern(address, 1, 1);
        for (int i = 1; i < counter; i++) {
            execute(x, address);
        }
    }

    /** The lines 0 to 7 and 8 to 15 in the set 0, both stored once; the program counter is 16. */
    static TraceCache twoLines() {
        TraceCache x = new TraceCache();
        x.run(4);
        return x;
    }

    /**
     * A branch at 1, taken and not taken in turn, has made two lines with the start 0: 0, 1, 10 to 15 in the
     * way 0 and 0 to 7 in the way 1. The program counter is 0, the counter of the branch is 1, it is taken next.
     */
    static TraceCache twoFromZero() {
        TraceCache x = new TraceCache();
        x.write(1, TraceCache.BRANCH, 10);
        x.setPattern(1, 1, 2);
        x.run(3);
        x.jumpTo(0);
        x.run(3);
        x.jumpTo(0);
        return x;
    }

    /** All ways hold lines: for each start from 0 to 7 the line of the eight addresses from there on. */
    static TraceCache fullOfLines() {
        TraceCache x = new TraceCache();
        for (int start = 0; start < 8; start++) {
            x.jumpTo(start);
            x.run(2);
        }
        return x;
    }
}
