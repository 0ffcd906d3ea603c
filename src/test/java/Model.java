import java.util.ArrayList;
import java.util.List;
import java.util.regex.Pattern;

/**
 * The document told once more, as literally and as wastefully as possible, for comparing answers. It shares no
 * code and no idea of how to hold the state with the program: a query about what will happen copies the state
 * and lets it happen, the saved states are full copies, and texts are judged by a regular expression.
 */
final class Model {
    private static final class Instruction {
        int kind = 0;
        int target = 0;
        String pattern = "0";
        int outcomeCount = 0;
        int counter = 1;
    }

    private static final class Line {
        List<Integer> addresses = new ArrayList<>();
        int useNumber;
    }

    private static final class FetchReport {
        int way = -1;
        List<Integer> fetched = new ArrayList<>();
        List<Integer> executed = new ArrayList<>();
        int mispredictions = 0;
    }

    private static final class State {
        Instruction[] program = new Instruction[48];
        int programCounter = 0;
        Line[][] sets = new Line[4][2];
        int nextUseNumber = 1;
        List<Integer> pending = new ArrayList<>();
        int[] counts = new int[10];

        State() {
            for (int i = 0; i < 48; i++) {
                program[i] = new Instruction();
            }
        }

        State copy() {
            State c = new State();
            for (int i = 0; i < 48; i++) {
                c.program[i].kind = program[i].kind;
                c.program[i].target = program[i].target;
                c.program[i].pattern = program[i].pattern;
                c.program[i].outcomeCount = program[i].outcomeCount;
                c.program[i].counter = program[i].counter;
            }
            c.programCounter = programCounter;
            for (int s = 0; s < 4; s++) {
                for (int w = 0; w < 2; w++) {
                    if (sets[s][w] != null) {
                        c.sets[s][w] = new Line();
                        c.sets[s][w].addresses.addAll(sets[s][w].addresses);
                        c.sets[s][w].useNumber = sets[s][w].useNumber;
                    }
                }
            }
            c.nextUseNumber = nextUseNumber;
            c.pending.addAll(pending);
            c.counts = counts.clone();
            return c;
        }

        int addressAfter(int address) {
            return address == 47 ? 0 : address + 1;
        }

        boolean predicted(int address) {
            return program[address].counter >= 2;
        }

        int predictedSuccessor(int address) {
            switch (program[address].kind) {
                case 0: return addressAfter(address);
                case 1: return program[address].target;
                default: return predicted(address) ? program[address].target : addressAfter(address);
            }
        }

        List<Integer> usablePart(Line line) {
            List<Integer> usable = new ArrayList<>();
            for (int address : line.addresses) {
                if (!usable.isEmpty() && predictedSuccessor(usable.get(usable.size() - 1)) != address) {
                    break;
                }
                usable.add(address);
            }
            return usable;
        }

        FetchReport fetch() {
            FetchReport report = new FetchReport();
            boolean[] predictions = new boolean[48];
            for (int i = 0; i < 48; i++) {
                predictions[i] = predicted(i);
            }
            Line[] set = sets[programCounter % 4];
            for (int w = 0; w < 2; w++) {
                if (set[w] != null && set[w].addresses.get(0) == programCounter) {
                    List<Integer> usable = usablePart(set[w]);
                    if (usable.size() > report.fetched.size()) {
                        report.fetched = usable;
                        report.way = w;
                    }
                }
            }
            if (report.way >= 0) {
                set[report.way].useNumber = nextUseNumber++;
            } else {
                int address = programCounter;
                while (report.fetched.size() < 4) {
                    report.fetched.add(address);
                    int kind = program[address].kind;
                    if (kind == 1 || kind == 2 && predictions[address]) {
                        break;
                    }
                    address = addressAfter(address);
                }
            }
            for (int address : report.fetched) {
                if (!report.executed.isEmpty() && address != programCounter) {
                    break;
                }
                report.executed.add(address);
                Instruction it = program[address];
                if (it.kind == 0) {
                    programCounter = addressAfter(address);
                } else if (it.kind == 1) {
                    programCounter = it.target;
                } else {
                    boolean taken = it.pattern.charAt(it.outcomeCount % it.pattern.length()) == '1';
                    it.outcomeCount++;
                    programCounter = taken ? it.target : addressAfter(address);
                    if (taken != predictions[address]) {
                        report.mispredictions++;
                    }
                    it.counter = taken ? Math.min(3, it.counter + 1) : Math.max(0, it.counter - 1);
                }
                addPending(address);
            }
            counts[0] += 1 + 3 * report.mispredictions;
            counts[1]++;
            counts[2] += report.executed.size();
            counts[3] += report.fetched.size() - report.executed.size();
            counts[4] += report.mispredictions;
            if (report.way >= 0) {
                counts[5] += report.executed.size();
                counts[6]++;
            }
            return report;
        }

        void addPending(int address) {
            pending.add(address);
            int branches = 0;
            for (int each : pending) {
                if (program[each].kind == 2) {
                    branches++;
                }
            }
            if (pending.size() == 8 || branches == 3) {
                storePending();
                pending.clear();
            }
        }

        void storePending() {
            Line[] set = sets[pending.get(0) % 4];
            for (Line line : set) {
                if (line != null && line.addresses.equals(pending)) {
                    line.useNumber = nextUseNumber++;
                    return;
                }
            }
            Line fresh = new Line();
            fresh.addresses.addAll(pending);
            fresh.useNumber = nextUseNumber++;
            counts[7]++;
            if (set[0] == null) {
                set[0] = fresh;
            } else if (set[1] == null) {
                set[1] = fresh;
            } else {
                counts[8]++;
                set[set[0].useNumber < set[1].useNumber ? 0 : 1] = fresh;
            }
        }

        int drop(boolean all, int address) {
            int dropped = 0;
            for (Line[] set : sets) {
                for (int w = 0; w < 2; w++) {
                    if (set[w] != null && (all || set[w].addresses.contains(address))) {
                        set[w] = null;
                        dropped++;
                    }
                }
            }
            counts[9] += dropped;
            if (all || pending.contains(address)) {
                pending.clear();
            }
            return dropped;
        }

        int write(int address, int kind, int target) {
            program[address].kind = kind;
            program[address].target = target;
            return drop(false, address);
        }

        void setPattern(int address, String pattern) {
            program[address].pattern = pattern;
            program[address].outcomeCount = 0;
        }

        int run(int fetches) {
            int executed = 0;
            for (int i = 0; i < fetches; i++) {
                executed += fetch().executed.size();
            }
            return executed;
        }
    }

    private static final String NUMBER = "(?:[0-9]|[123][0-9]|4[0-7])";
    private static final String COMMAND =
        "(?:" + NUMBER + "(?:\\.|[jb]" + NUMBER + "|p[01]{1,8})|r[1-9][0-9]?)";
    private static final Pattern VALID = Pattern.compile(COMMAND + "(?:;" + COMMAND + ")*");
    // Each beginning of a valid text becomes one by at least one of these.
    private static final String[] ENDS = {"", "0.", ".", "0", "1"};

    private State state = new State();
    private final List<State> saved = new ArrayList<>();
    private String text = "";

    private void save() {
        saved.add(state.copy());
        if (saved.size() == 7) {
            saved.remove(0);
        }
    }

    private static void inRange(int value, int lowest, int highest) {
        if (value < lowest || value > highest) {
            throw new IndexOutOfBoundsException();
        }
    }

    private static void allowed(boolean condition) {
        if (!condition) {
            throw new IllegalArgumentException();
        }
    }

    int write(int address, int kind, int target) {
        inRange(address, 0, 47);
        inRange(target, 0, 47);
        allowed(kind >= 0 && kind <= 2);
        save();
        return state.write(address, kind, target);
    }

    int setPattern(int address, int outcomes, int length) {
        inRange(address, 0, 47);
        allowed(length >= 1 && length <= 8);
        allowed(outcomes >= 0 && outcomes < Math.pow(2, length));
        save();
        StringBuilder pattern = new StringBuilder();
        for (int i = 0; i < length; i++) {
            pattern.append(outcomes >> i & 1);
        }
        int before = state.program[address].outcomeCount;
        state.setPattern(address, pattern.toString());
        return before;
    }

    int jumpTo(int address) {
        inRange(address, 0, 47);
        save();
        int before = state.programCounter;
        state.programCounter = address;
        state.pending.clear();
        return before;
    }

    int run(int fetches) {
        allowed(fetches >= 1 && fetches <= 99);
        save();
        return state.run(fetches);
    }

    int flush() {
        save();
        return state.drop(true, 0);
    }

    int appendText(int character) {
        allowed(character >= 32 && character <= 126);
        if (text.length() == 80) {
            throw new IllegalStateException();
        }
        text += (char) character;
        return text.length();
    }

    int clearText() {
        int before = text.length();
        text = "";
        return before;
    }

    private static boolean begins(String start) {
        for (String end : ENDS) {
            if (VALID.matcher(start + end).matches()) {
                return true;
            }
        }
        return false;
    }

    int errorPosition() {
        if (VALID.matcher(text).matches()) {
            return -1;
        }
        for (int i = 0; i < text.length(); i++) {
            if (!begins(text.substring(0, i + 1))) {
                return i;
            }
        }
        return text.length();
    }

    int runText() {
        if (!VALID.matcher(text).matches()) {
            throw new IllegalStateException();
        }
        save();
        int executed = 0;
        for (String command : text.split(";")) {
            if (command.startsWith("r")) {
                executed += state.run(Integer.parseInt(command.substring(1)));
                continue;
            }
            String[] parts = command.split("[.jbp]", -1);
            int address = Integer.parseInt(parts[0]);
            if (command.contains("p")) {
                state.setPattern(address, parts[1]);
            } else if (command.contains("j")) {
                state.write(address, 1, Integer.parseInt(parts[1]));
            } else if (command.contains("b")) {
                state.write(address, 2, Integer.parseInt(parts[1]));
            } else {
                state.write(address, 0, 0);
            }
        }
        return executed;
    }

    int undo() {
        if (saved.isEmpty()) {
            throw new IllegalStateException();
        }
        state = saved.remove(saved.size() - 1);
        return saved.size();
    }

    int instruction(int address, int part) {
        inRange(address, 0, 47);
        allowed(part >= 0 && part <= 6);
        Instruction it = state.program[address];
        int outcomes = Integer.parseInt(new StringBuilder(it.pattern).reverse().toString(), 2);
        int[] parts = {it.kind, it.kind == 0 ? -1 : it.target, it.outcomeCount, it.pattern.length(), outcomes,
            it.counter, state.predictedSuccessor(address)};
        return parts[part];
    }

    int programCounter() {
        return state.programCounter;
    }

    int willExecute(int index) {
        inRange(index, 0, 99);
        State future = state.copy();
        List<Integer> executed = new ArrayList<>();
        while (executed.size() <= index) {
            executed.addAll(future.fetch().executed);
        }
        return executed.get(index);
    }

    int line(int set, int way, int part) {
        inRange(set, 0, 3);
        inRange(way, 0, 1);
        allowed(part >= 0 && part <= 10);
        Line line = state.sets[set][way];
        if (line == null) {
            return -1;
        }
        if (part < 3) {
            return new int[] {line.addresses.size(), state.usablePart(line).size(), line.useNumber}[part];
        }
        return part - 3 < line.addresses.size() ? line.addresses.get(part - 3) : -1;
    }

    int pending(int index) {
        inRange(index, 0, Integer.MAX_VALUE);
        return index < state.pending.size() ? state.pending.get(index) : -1;
    }

    int lines() {
        int lines = 0;
        for (int address = 0; address < 4; address++) {
            lines += (state.sets[address][0] == null ? 0 : 1) + (state.sets[address][1] == null ? 0 : 1);
        }
        return lines;
    }

    int linesWith(int address) {
        inRange(address, 0, 47);
        return state.copy().drop(false, address);
    }

    int nextFetch(int part) {
        allowed(part >= 0 && part <= 3);
        FetchReport report = state.copy().fetch();
        return new int[] {report.way, report.fetched.size(), report.executed.size(), report.mispredictions}[part];
    }

    int wouldFetch(int index) {
        inRange(index, 0, Integer.MAX_VALUE);
        List<Integer> fetched = state.copy().fetch().fetched;
        return index < fetched.size() ? fetched.get(index) : -1;
    }

    int count(int what) {
        allowed(what >= 0 && what <= 9);
        return state.counts[what];
    }

    double rate() {
        return state.counts[0] == 0 ? 0.0 : (double) state.counts[2] / (double) state.counts[0];
    }

    int savedStates() {
        return saved.size();
    }

    int textLength() {
        return text.length();
    }
}
