/**
 * Compares the program with Model on many runs of at most 512 calls each. The calls are drawn by a fixed
 * row of numbers, so each run of this test makes the same ones.
 */
public final class ModelTest {
    private static final int RUNS = 3000;
    private static final int CALLS = 512;
    private static final int[] EXTREMES = {-1, Integer.MIN_VALUE, Integer.MAX_VALUE, 48, 100, 256, 511};

    private final Check check;
    private final int run;
    private final TraceCache cache = new TraceCache();
    private final Model model = new Model();
    private final int addresses;
    private long seed;
    private int calls = 0;
    private int queries = 0;

    private ModelTest(Check check, int run) {
        this.check = check;
        this.run = run;
        this.seed = run * 7919L + 17;
        int[] sizes = {3, 5, 8, 12, 20, 48};
        addresses = sizes[run % sizes.length];
    }

    private int below(int bound) {
        seed = seed * 6364136223846793005L + 1442695040888963407L;
        return (int) ((seed >>> 33) % bound);
    }

    /** Mostly a number of the few addresses that this run plays with, now and then any one or a wrong one. */
    private int address() {
        int luck = below(40);
        if (luck == 0) {
            return EXTREMES[below(EXTREMES.length)];
        }
        return luck < 3 ? below(48) : below(addresses);
    }

    private int number(int bound) {
        return below(40) == 0 ? EXTREMES[below(EXTREMES.length)] : below(bound);
    }

    private void same(String name, java.util.concurrent.Callable<?> got, java.util.concurrent.Callable<?> want) {
        if (calls < CALLS) {
            calls++;
            check.due("run " + run + ", call " + calls + ", " + name, Check.answer(want), got);
        }
    }

    private void change() {
        int a = address();
        int b = address();
        switch (below(14)) {
            case 0: case 1: case 2: {
                int kind = number(3);
                same("write(" + a + ", " + kind + ", " + b + ")",
                    () -> cache.write(a, kind, b), () -> model.write(a, kind, b));
                break;
            }
            case 3: case 4: {
                int length = below(30) == 0 ? number(12) - 1 : 1 + below(8);
                int outcomes = below(10) == 0 ? number(300) : below(1 << Math.max(0, Math.min(8, length)));
                same("setPattern(" + a + ", " + outcomes + ", " + length + ")",
                    () -> cache.setPattern(a, outcomes, length), () -> model.setPattern(a, outcomes, length));
                break;
            }
            case 5:
                same("jumpTo(" + a + ")", () -> cache.jumpTo(a), () -> model.jumpTo(a));
                break;
            case 6:
                if (below(3) == 0) {
                    same("flush()", () -> cache.flush(), () -> model.flush());
                }
                break;
            case 7:
                for (int i = below(4); i > 0; i--) {
                    same("undo()", () -> cache.undo(), () -> model.undo());
                }
                break;
            case 8:
                text();
                break;
            default: {
                int fetches = below(6) == 0 ? number(101) : 1 + below(5);
                same("run(" + fetches + ")", () -> cache.run(fetches), () -> model.run(fetches));
            }
        }
    }

    private String command() {
        int a = below(3) == 0 ? below(50) : below(addresses);
        int b = below(3) == 0 ? below(50) : below(addresses);
        switch (below(5)) {
            case 0: return a + ".";
            case 1: return a + "j" + b;
            case 2: return a + "b" + b;
            case 3: {
                StringBuilder pattern = new StringBuilder().append(a).append("p");
                for (int i = below(20) == 0 ? below(11) : 1 + below(8); i > 0; i--) {
                    pattern.append(below(2));
                }
                return pattern.toString();
            }
            default: return "r" + (below(8) == 0 ? below(120) : 1 + below(9));
        }
    }

    private void text() {
        if (run % 3 != 0) {
            return;
        }
        if (below(5) > 0) {
            same("clearText()", () -> cache.clearText(), () -> model.clearText());
        }
        StringBuilder made = new StringBuilder(command());
        for (int i = below(4) == 0 ? below(14) : below(4); i > 0; i--) {
            made.append(";").append(command());
        }
        if (below(3) == 0) {
            String signs = "0123456789.jbpr; x";
            made.setCharAt(below(made.length()), signs.charAt(below(signs.length())));
        }
        for (int i = 0; i < made.length(); i++) {
            int sign = made.charAt(i);
            same("appendText(" + sign + ")", () -> cache.appendText(sign), () -> model.appendText(sign));
            if (below(6) == 0) {
                same("errorPosition()", () -> cache.errorPosition(), () -> model.errorPosition());
            }
        }
        int odd = number(140);
        if (below(12) == 0) {
            same("appendText(" + odd + ")", () -> cache.appendText(odd), () -> model.appendText(odd));
        }
        same("errorPosition()", () -> cache.errorPosition(), () -> model.errorPosition());
        same("runText()", () -> cache.runText(), () -> model.runText());
        same("textLength()", () -> cache.textLength(), () -> model.textLength());
    }

    private void query() {
        int a = address();
        int part = number(11);
        queries++;
        switch (queries % 13) {
            case 0:
                same("instruction(" + a + ", " + part % 8 + ")",
                    () -> cache.instruction(a, part % 8), () -> model.instruction(a, part % 8));
                break;
            case 1:
                same("programCounter()", () -> cache.programCounter(), () -> model.programCounter());
                break;
            case 2: {
                int index = number(101);
                same("willExecute(" + index + ")", () -> cache.willExecute(index), () -> model.willExecute(index));
                break;
            }
            case 3: case 4: {
                int set = number(4);
                int way = number(2);
                same("line(" + set + ", " + way + ", " + part + ")",
                    () -> cache.line(set, way, part), () -> model.line(set, way, part));
                break;
            }
            case 5: {
                int index = number(9);
                same("pending(" + index + ")", () -> cache.pending(index), () -> model.pending(index));
                break;
            }
            case 6:
                same("lines()", () -> cache.lines(), () -> model.lines());
                break;
            case 7:
                same("linesWith(" + a + ")", () -> cache.linesWith(a), () -> model.linesWith(a));
                break;
            case 8: {
                int what = number(4);
                same("nextFetch(" + what + ")", () -> cache.nextFetch(what), () -> model.nextFetch(what));
                break;
            }
            case 9: {
                int index = number(9);
                same("wouldFetch(" + index + ")", () -> cache.wouldFetch(index), () -> model.wouldFetch(index));
                break;
            }
            case 10:
                same("count(" + part + ")", () -> cache.count(part), () -> model.count(part));
                break;
            case 11:
                same("rate()", () -> cache.rate(), () -> model.rate());
                break;
            default:
                same("savedStates()", () -> cache.savedStates(), () -> model.savedStates());
        }
    }

    private void play() {
        // A loop with branches at once, so that lines fill even if little is written.
        if (run % 2 == 0) {
            for (int i = 0; i < 3; i++) {
                int from = below(addresses);
                int to = below(addresses);
                int pattern = below(256);
                same("write", () -> cache.write(from, 2, to), () -> model.write(from, 2, to));
                same("setPattern", () -> cache.setPattern(from, pattern, 8), () -> model.setPattern(from, pattern, 8));
            }
            int last = addresses - 1;
            same("write", () -> cache.write(last, 1, 0), () -> model.write(last, 1, 0));
        }
        for (int i = 0; i < 2 * CALLS && calls < CALLS; i++) {
            if (run % 2 == 0 && below(3) > 0) {
                same("run(1)", () -> cache.run(1), () -> model.run(1));
            } else {
                change();
            }
            for (int k = below(5); k > 0; k--) {
                query();
            }
        }
    }

    public static void main(String[] args) {
        Check check = new Check();
        for (int run = 0; run < RUNS && !check.hasFailed(); run++) {
            new ModelTest(check, run).play();
        }
        check.end("ModelTest");
    }
}
