import java.util.ArrayList;
import java.util.List;
import java.util.concurrent.Callable;
import java.util.function.Consumer;

/**
 * Everything that can be asked of an object after the calls that make it. Since an object is used for at most 512
 * calls, the questions go to several objects that are made by the same calls. What no query tells (the saved states,
 * the characters of the text, the next use number) is asked for by going on: with fetches, the text and undo.
 */
final class Portrait {
    private static final int MOST_SAVED = 6;

    private final List<String> told = new ArrayList<>();
    private String when = "";

    private Portrait(Consumer<TraceCache> making) {
        ask("now", making);
        ask("after run(30)", making.andThen(x -> x.run(30)));
        ask("after runText()", making.andThen(x -> Check.answer(() -> x.runText())));
        ask("after more text", making.andThen(x -> {
            Check.answer(() -> x.appendText(';'));
            Check.answer(() -> x.appendText('9'));
        }));
        Consumer<TraceCache> undone = making;
        for (int i = 1; i <= MOST_SAVED; i++) {
            undone = undone.andThen(x -> Check.answer(() -> x.undo()));
            ask("after undo() " + i + " times", undone);
        }
    }

    /** The first question that the two answer differently, "none" if there is none. */
    static String difference(Consumer<TraceCache> one, Consumer<TraceCache> other) {
        List<String> first = new Portrait(one).told;
        List<String> second = new Portrait(other).told;
        for (int i = 0; i < first.size(); i++) {
            if (!first.get(i).equals(second.get(i))) {
                return first.get(i) + ", but then " + second.get(i);
            }
        }
        return "none";
    }

    private static TraceCache made(Consumer<TraceCache> making) {
        TraceCache x = new TraceCache();
        making.accept(x);
        return x;
    }

    private void note(String question, Callable<?> call) {
        told.add(when + ": " + question + " = " + Check.answer(call));
    }

    private void ask(String time, Consumer<TraceCache> making) {
        when = time;
        askInstructions(made(making));
        askOthers(made(making));
    }

    private void askInstructions(TraceCache x) {
        for (int i = 0; i < 48 * 7; i++) {
            int address = i / 7;
            int part = i % 7;
            note("instruction(" + address + ", " + part + ")", () -> x.instruction(address, part));
        }
    }

    private void askOthers(TraceCache x) {
        note("programCounter()", () -> x.programCounter());
        note("lines()", () -> x.lines());
        note("rate()", () -> x.rate());
        note("savedStates()", () -> x.savedStates());
        note("textLength()", () -> x.textLength());
        note("errorPosition()", () -> x.errorPosition());
        for (int i = 0; i < 4 * 2 * 11; i++) {
            int set = i / 22;
            int way = i / 11 % 2;
            int part = i % 11;
            note("line(" + set + ", " + way + ", " + part + ")", () -> x.line(set, way, part));
        }
        for (int i = 0; i < 48; i++) {
            int address = i;
            note("linesWith(" + address + ")", () -> x.linesWith(address));
        }
        for (int i = 0; i < 10; i++) {
            int index = i;
            note("pending(" + index + ")", () -> x.pending(index));
            note("count(" + index + ")", () -> x.count(index));
            note("wouldFetch(" + index + ")", () -> x.wouldFetch(index));
            note("nextFetch(" + index + ")", () -> x.nextFetch(index));
            note("willExecute(" + index * 11 + ")", () -> x.willExecute(index * 11));
        }
    }
}
