/**
 * A trace cache over a program of 48 instructions: see ../shared/DOC.md, whose section numbers the comments use.
 *
 * Every number that comes in through a public method is tested there (or, for texts, by the reader of the text),
 * so the addresses, kinds, patterns and targets that the classes inside hold are always in range.
 * All rows are made with the object; no call makes another one.
 */
public final class TraceCache {
    public static final int NONE = -1;
    public static final int PLAIN = 0, JUMP = 1, BRANCH = 2;

    private static final int ADDRESSES = 48;
    private static final int MOST_OUTCOMES = 8;
    private static final int HIGHEST_COUNTER = 3;
    private static final int TAKEN_FROM = 2;
    private static final int SETS = 4;
    private static final int WAYS = 2;
    private static final int PLACES = SETS * WAYS;
    private static final int LINE_ADDRESSES = 8;
    private static final int LINE_BRANCHES = 3;
    private static final int MEMORY_FETCH = 4;
    private static final int MISPREDICTION_TIME = 3;
    private static final int MOST_FETCHES = 99;
    private static final int FORESEEN = 100;
    private static final int TEXT_CHARACTERS = 80;
    private static final int MOST_SAVED = 6;

    private final Machine machine;
    private final History history;
    private final Text text;
    private final Fetch fetch;
    // Queries about what will happen let it happen here, so that they change nothing.
    private final Program rehearsal;

    public TraceCache() {
        machine = new Machine();
        history = new History();
        text = new Text();
        fetch = new Fetch();
        rehearsal = new Program();
    }

    // ---- the program

    public int write(int address, int kind, int target) throws IndexOutOfBoundsException, IllegalArgumentException {
        requireAddress(address);
        requireAddress(target);
        if (kind != PLAIN && kind != JUMP && kind != BRANCH) {
            throw new IllegalArgumentException("no such kind");
        }
        history.save(machine);
        return machine.put(address, kind, target);
    }

    public int setPattern(int address, int outcomes, int length)
            throws IndexOutOfBoundsException, IllegalArgumentException {
        requireAddress(address);
        if (length < 1 || length > MOST_OUTCOMES) {
            throw new IllegalArgumentException("the length is out of range");
        }
        if (outcomes < 0 || outcomes >= 1 << length) {
            throw new IllegalArgumentException("the outcomes are out of range");
        }
        history.save(machine);
        return machine.program.replacePattern(address, outcomes, length);
    }

    public int jumpTo(int address) throws IndexOutOfBoundsException {
        requireAddress(address);
        history.save(machine);
        return machine.moveTo(address);
    }

    // ---- running

    public int run(int fetches) throws IllegalArgumentException {
        if (fetches < 1 || fetches > MOST_FETCHES) {
            throw new IllegalArgumentException("the number of fetches is out of range");
        }
        history.save(machine);
        return machine.runFetches(fetches, fetch);
    }

    public int flush() {
        history.save(machine);
        return machine.dropAll();
    }

    // ---- texts

    public int appendText(int character) throws IllegalArgumentException, IllegalStateException {
        if (character < 32 || character > 126) {
            throw new IllegalArgumentException("the character code is out of range");
        }
        if (!text.add(character)) {
            throw new IllegalStateException("the text is full");
        }
        return text.length;
    }

    public int clearText() {
        int before = text.length;
        text.length = 0;
        return before;
    }

    public int errorPosition() {
        return text.firstError();
    }

    public int runText() throws IllegalStateException {
        if (text.firstError() != NONE) {
            throw new IllegalStateException("the text is not valid");
        }
        history.save(machine);
        int executed = 0;
        text.rewind();
        for (int left = TEXT_CHARACTERS; left > 0 && text.readNext(); left--) {
            executed += perform();
        }
        return executed;
    }

    // ---- undo

    public int undo() throws IllegalStateException {
        if (history.size == 0) {
            throw new IllegalStateException("there is no saved state");
        }
        history.restore(machine);
        return history.size;
    }

    // ---- queries about the program

    public int instruction(int address, int part) throws IndexOutOfBoundsException, IllegalArgumentException {
        requireAddress(address);
        Program program = machine.program;
        switch (part) {
            case 0: return program.kinds[address];
            case 1: return program.kinds[address] == PLAIN ? NONE : program.targets[address];
            case 2: return program.outcomeCounts[address];
            case 3: return program.lengths[address];
            case 4: return program.outcomes[address];
            case 5: return program.counters[address];
            case 6: return program.predictedSuccessor(address);
            default: throw new IllegalArgumentException("no such part of an instruction");
        }
    }

    public int programCounter() {
        return machine.program.next;
    }

    public int willExecute(int index) throws IndexOutOfBoundsException {
        if (index < 0 || index >= FORESEEN) {
            throw new IndexOutOfBoundsException("the index is out of range");
        }
        // What is executed does not depend on how it is fetched, so the program alone tells.
        rehearsal.copyFrom(machine.program);
        for (int i = 0; i < index; i++) {
            rehearsal.step();
        }
        return rehearsal.next;
    }

    // ---- queries about lines

    public int line(int set, int way, int part) throws IndexOutOfBoundsException, IllegalArgumentException {
        if (set < 0 || set >= SETS || way < 0 || way >= WAYS) {
            throw new IndexOutOfBoundsException("no such set or way");
        }
        if (part < 0 || part > LINE_ADDRESSES + 2) {
            throw new IllegalArgumentException("no such part of a line");
        }
        Cache cache = machine.cache;
        int place = set * WAYS + way;
        if (cache.sizes[place] == 0) {
            return NONE;
        }
        switch (part) {
            case 0: return cache.sizes[place];
            case 1: return cache.usableSize(place, machine.program);
            case 2: return cache.useNumbers[place];
            default: return cache.addressAt(place, part - 3);
        }
    }

    public int pending(int index) throws IndexOutOfBoundsException {
        if (index < 0) {
            throw new IndexOutOfBoundsException("the index is negative");
        }
        return machine.pendingAt(index);
    }

    public int lines() {
        return machine.cache.filled();
    }

    public int linesWith(int address) throws IndexOutOfBoundsException {
        requireAddress(address);
        return machine.cache.holding(address);
    }

    // ---- queries about the next fetch

    public int nextFetch(int part) throws IllegalArgumentException {
        if (part < 0 || part > 3) {
            throw new IllegalArgumentException("no such part of a fetch");
        }
        fetch.choose(machine.program, machine.cache);
        if (part == 0) {
            return fetch.place == NONE ? NONE : fetch.place % WAYS;
        }
        if (part == 1) {
            return fetch.size;
        }
        rehearsal.copyFrom(machine.program);
        fetch.execute(rehearsal);
        return part == 2 ? fetch.executed : fetch.mispredictions;
    }

    public int wouldFetch(int index) throws IndexOutOfBoundsException {
        if (index < 0) {
            throw new IndexOutOfBoundsException("the index is negative");
        }
        fetch.choose(machine.program, machine.cache);
        return index < fetch.size ? fetch.addresses[index] : NONE;
    }

    // ---- counts

    public int count(int what) throws IllegalArgumentException {
        switch (what) {
            case 0: return machine.time;
            case 1: return machine.fetches;
            case 2: return machine.executed;
            case 3: return machine.thrownAway;
            case 4: return machine.mispredictions;
            case 5: return machine.executedFromLines;
            case 6: return machine.fetchesFromLines;
            case 7: return machine.cache.put;
            case 8: return machine.cache.replaced;
            case 9: return machine.cache.dropped;
            default: throw new IllegalArgumentException("no such count");
        }
    }

    public double rate() {
        return machine.time == 0 ? 0.0 : (double) machine.executed / (double) machine.time;
    }

    public int savedStates() {
        return history.size;
    }

    public int textLength() {
        return text.length;
    }

    // ---- what the public methods share

    private static void requireAddress(int address) {
        if (address < 0 || address >= ADDRESSES) {
            throw new IndexOutOfBoundsException("no such address");
        }
    }

    /** Does what the command that was read last says; answers how many instructions it executes. */
    private int perform() {
        switch (text.operation) {
            case 'r':
                return machine.runFetches(text.number, fetch);
            case 'p':
                machine.program.replacePattern(text.address, text.number, text.outcomes);
                return 0;
            case 'j':
                machine.put(text.address, JUMP, text.number);
                return 0;
            case 'b':
                machine.put(text.address, BRANCH, text.number);
                return 0;
            default:
                machine.put(text.address, PLAIN, 0);
                return 0;
        }
    }

    /** Sections 1 and 2: the instructions, their patterns and counters, and the program counter. */
    private static final class Program {
        private final int[] kinds = new int[ADDRESSES];
        private final int[] targets = new int[ADDRESSES];
        private final int[] outcomes = new int[ADDRESSES];
        private final int[] lengths = new int[ADDRESSES];
        private final int[] outcomeCounts = new int[ADDRESSES];
        private final int[] counters = new int[ADDRESSES];
        private int next;

        private Program() {
            for (int i = 0; i < ADDRESSES; i++) {
                lengths[i] = 1;
                counters[i] = 1;
            }
        }

        private void copyFrom(Program other) {
            System.arraycopy(other.kinds, 0, kinds, 0, ADDRESSES);
            System.arraycopy(other.targets, 0, targets, 0, ADDRESSES);
            System.arraycopy(other.outcomes, 0, outcomes, 0, ADDRESSES);
            System.arraycopy(other.lengths, 0, lengths, 0, ADDRESSES);
            System.arraycopy(other.outcomeCounts, 0, outcomeCounts, 0, ADDRESSES);
            System.arraycopy(other.counters, 0, counters, 0, ADDRESSES);
            next = other.next;
        }

        private int replacePattern(int address, int newOutcomes, int length) {
            int before = outcomeCounts[address];
            outcomes[address] = newOutcomes;
            lengths[address] = length;
            outcomeCounts[address] = 0;
            return before;
        }

        /** The successor that the instruction has if it is, as a branch, taken or not. */
        private int successor(int address, boolean taken) {
            int kind = kinds[address];
            boolean leaves = kind == JUMP || (kind == BRANCH && taken);
            return leaves ? targets[address] : (address + 1) % ADDRESSES;
        }

        /** False for what is not a branch, so that it never differs from what step() answers. */
        private boolean predictsTaken(int address) {
            return kinds[address] == BRANCH && counters[address] >= TAKEN_FROM;
        }

        private int predictedSuccessor(int address) {
            return successor(address, predictsTaken(address));
        }

        /** Executes the instruction at the program counter; answers if it is a branch that is taken. */
        private boolean step() {
            int address = next;
            boolean taken = kinds[address] == BRANCH && decide(address);
            next = successor(address, taken);
            return taken;
        }

        /** Tells if the branch is taken this time, and teaches its counter. */
        private boolean decide(int address) {
            int length = lengths[address];
            int index = length > 0 ? outcomeCounts[address] % length : 0;
            boolean taken = ((outcomes[address] >> index) & 1) == 1;
            outcomeCounts[address]++;
            if (taken && counters[address] < HIGHEST_COUNTER) {
                counters[address]++;
            } else if (!taken && counters[address] > 0) {
                counters[address]--;
            }
            return taken;
        }
    }

    /** Section 3: the lines. The way w of the set s has the place s * WAYS + w. */
    private static final class Cache {
        private final int[][] addresses = new int[PLACES][LINE_ADDRESSES];
        // 0 where the way is empty.
        private final int[] sizes = new int[PLACES];
        private final int[] useNumbers = new int[PLACES];
        private int lastUse;
        private int put;
        private int replaced;
        private int dropped;

        private void copyFrom(Cache other) {
            for (int place = 0; place < PLACES; place++) {
                System.arraycopy(other.addresses[place], 0, addresses[place], 0, LINE_ADDRESSES);
            }
            System.arraycopy(other.sizes, 0, sizes, 0, PLACES);
            System.arraycopy(other.useNumbers, 0, useNumbers, 0, PLACES);
            lastUse = other.lastUse;
            put = other.put;
            replaced = other.replaced;
            dropped = other.dropped;
        }

        private static int firstPlaceFor(int start) {
            return (start % SETS) * WAYS;
        }

        private void use(int place) {
            lastUse++;
            useNumbers[place] = lastUse;
        }

        private int addressAt(int place, int index) {
            return index < sizes[place] ? addresses[place][index] : NONE;
        }

        /** The length of the usable part, 0 where the way is empty. */
        private int usableSize(int place, Program program) {
            int[] row = addresses[place];
            int size = sizes[place];
            for (int i = 1; i < size; i++) {
                if (row[i] != program.predictedSuccessor(row[i - 1])) {
                    return i;
                }
            }
            return size;
        }

        /** Section 5: stores a line of at least one address. */
        private void store(int[] line, int size) {
            int first = firstPlaceFor(line[0]);
            for (int place = first; place < first + WAYS; place++) {
                if (isSame(place, line, size)) {
                    use(place);
                    return;
                }
            }
            int place = placeToFill(first);
            if (sizes[place] > 0) {
                replaced++;
            }
            System.arraycopy(line, 0, addresses[place], 0, size);
            sizes[place] = size;
            put++;
            use(place);
        }

        private boolean isSame(int place, int[] line, int size) {
            if (sizes[place] != size) {
                return false;
            }
            for (int i = 0; i < size; i++) {
                if (addresses[place][i] != line[i]) {
                    return false;
                }
            }
            return true;
        }

        private int placeToFill(int first) {
            int oldest = first;
            for (int place = first; place < first + WAYS; place++) {
                if (sizes[place] == 0) {
                    return place;
                }
                if (useNumbers[place] < useNumbers[oldest]) {
                    oldest = place;
                }
            }
            return oldest;
        }

        private boolean holds(int place, int address) {
            for (int i = 0; i < sizes[place]; i++) {
                if (addresses[place][i] == address) {
                    return true;
                }
            }
            return false;
        }

        private int filled() {
            int found = 0;
            for (int place = 0; place < PLACES; place++) {
                if (sizes[place] > 0) {
                    found++;
                }
            }
            return found;
        }

        private int holding(int address) {
            int found = 0;
            for (int place = 0; place < PLACES; place++) {
                if (holds(place, address)) {
                    found++;
                }
            }
            return found;
        }

        private int dropHolding(int address) {
            int found = 0;
            for (int place = 0; place < PLACES; place++) {
                if (holds(place, address)) {
                    sizes[place] = 0;
                    found++;
                }
            }
            dropped += found;
            return found;
        }

        private int dropEvery() {
            int found = filled();
            for (int place = 0; place < PLACES; place++) {
                sizes[place] = 0;
            }
            dropped += found;
            return found;
        }
    }

    /** Section 4: one fetch, first chosen, then executed. It belongs to no state: each fetch fills it anew. */
    private static final class Fetch {
        private final int[] addresses = new int[LINE_ADDRESSES];
        // Kept from the choice on, since executing a branch teaches its counter.
        private final boolean[] predictions = new boolean[LINE_ADDRESSES];
        private int size;
        // The place of the line that is taken, NONE for a fetch from memory.
        private int place;
        private int executed;
        private int mispredictions;

        /** Step a, without the use number. */
        private void choose(Program program, Cache cache) {
            int start = program.next;
            int first = Cache.firstPlaceFor(start);
            place = NONE;
            size = 0;
            for (int candidate = first; candidate < first + WAYS; candidate++) {
                if (cache.addressAt(candidate, 0) == start) {
                    int usable = cache.usableSize(candidate, program);
                    if (usable > size) {
                        place = candidate;
                        size = usable;
                    }
                }
            }
            if (place == NONE) {
                fillFromMemory(program);
            } else {
                System.arraycopy(cache.addresses[place], 0, addresses, 0, size);
            }
            for (int i = 0; i < size; i++) {
                predictions[i] = program.predictsTaken(addresses[i]);
            }
        }

        private void fillFromMemory(Program program) {
            int address = program.next;
            boolean ended = false;
            for (int i = 0; i < MEMORY_FETCH && !ended; i++) {
                addresses[i] = address;
                size = i + 1;
                ended = program.kinds[address] == JUMP || program.predictsTaken(address);
                address = (address + 1) % ADDRESSES;
            }
        }

        /** Step b, on the program that the fetch was chosen for or on a copy of it. */
        private void execute(Program program) {
            executed = 0;
            mispredictions = 0;
            for (int i = 0; i < size && addresses[i] == program.next; i++) {
                if (program.step() != predictions[i]) {
                    mispredictions++;
                }
                executed++;
            }
        }
    }

    /** Section 8: the whole state, with what changes it. */
    private static final class Machine {
        private final Program program = new Program();
        private final Cache cache = new Cache();
        private final int[] pendingLine = new int[LINE_ADDRESSES];
        private int pendingSize;
        private int time;
        private int fetches;
        private int executed;
        private int thrownAway;
        private int mispredictions;
        private int executedFromLines;
        private int fetchesFromLines;

        private void copyFrom(Machine other) {
            program.copyFrom(other.program);
            cache.copyFrom(other.cache);
            System.arraycopy(other.pendingLine, 0, pendingLine, 0, LINE_ADDRESSES);
            pendingSize = other.pendingSize;
            time = other.time;
            fetches = other.fetches;
            executed = other.executed;
            thrownAway = other.thrownAway;
            mispredictions = other.mispredictions;
            executedFromLines = other.executedFromLines;
            fetchesFromLines = other.fetchesFromLines;
        }

        /** Section 6: writes an instruction; answers how many lines are dropped. */
        private int put(int address, int kind, int target) {
            program.kinds[address] = kind;
            program.targets[address] = target;
            if (pendingHolds(address)) {
                pendingSize = 0;
            }
            return cache.dropHolding(address);
        }

        private boolean pendingHolds(int address) {
            for (int i = 0; i < pendingSize; i++) {
                if (pendingLine[i] == address) {
                    return true;
                }
            }
            return false;
        }

        private int moveTo(int address) {
            int before = program.next;
            program.next = address;
            pendingSize = 0;
            return before;
        }

        private int dropAll() {
            pendingSize = 0;
            return cache.dropEvery();
        }

        private int pendingAt(int index) {
            return index < pendingSize ? pendingLine[index] : NONE;
        }

        /** Runs fetches in the given workplace; answers how many instructions they execute. */
        private int runFetches(int number, Fetch fetch) {
            int before = executed;
            for (int i = 0; i < number; i++) {
                fetch.choose(program, cache);
                if (fetch.place != NONE) {
                    cache.use(fetch.place);
                }
                fetch.execute(program);
                tally(fetch);
                // Storing lines changes nothing that executing looks at, so it may wait until here.
                for (int k = 0; k < fetch.executed; k++) {
                    collect(fetch.addresses[k]);
                }
            }
            return executed - before;
        }

        private void tally(Fetch fetch) {
            time += 1 + MISPREDICTION_TIME * fetch.mispredictions;
            fetches++;
            executed += fetch.executed;
            thrownAway += fetch.size - fetch.executed;
            mispredictions += fetch.mispredictions;
            if (fetch.place != NONE) {
                executedFromLines += fetch.executed;
                fetchesFromLines++;
            }
        }

        /** Section 5: adds an executed instruction to the pending line. */
        private void collect(int address) {
            if (pendingSize < LINE_ADDRESSES) {
                pendingLine[pendingSize] = address;
                pendingSize++;
            }
            if (pendingSize == LINE_ADDRESSES || pendingBranches() == LINE_BRANCHES) {
                cache.store(pendingLine, pendingSize);
                pendingSize = 0;
            }
        }

        private int pendingBranches() {
            int found = 0;
            for (int i = 0; i < pendingSize; i++) {
                if (program.kinds[pendingLine[i]] == BRANCH) {
                    found++;
                }
            }
            return found;
        }
    }

    /** The saved states, a ring in which the oldest one gives way. */
    private static final class History {
        private final Machine[] saved = new Machine[MOST_SAVED];
        private int oldest;
        private int size;

        private History() {
            for (int i = 0; i < MOST_SAVED; i++) {
                saved[i] = new Machine();
            }
        }

        private void save(Machine machine) {
            saved[(oldest + size) % MOST_SAVED].copyFrom(machine);
            if (size < MOST_SAVED) {
                size++;
            } else {
                oldest = (oldest + 1) % MOST_SAVED;
            }
        }

        /** Only where a state is saved. */
        private void restore(Machine machine) {
            size--;
            machine.copyFrom(saved[(oldest + size) % MOST_SAVED]);
        }
    }

    /** Section 7: the text buffer and its reader, which stops at the first character that can't stand there. */
    private static final class Text {
        private final int[] characters = new int[TEXT_CHARACTERS];
        private int length;
        private int place;
        // The command that was read last: its sign ('.', 'j', 'b', 'p', 'r') and its numbers.
        private int operation;
        private int address;
        // The target, the pattern's outcomes or the number of fetches.
        private int number;
        // How many outcomes the pattern has.
        private int outcomes;

        private boolean add(int character) {
            if (length >= TEXT_CHARACTERS) {
                return false;
            }
            characters[length] = character;
            length++;
            return true;
        }

        private void rewind() {
            place = 0;
        }

        /** NONE if the text is valid, otherwise its error position. */
        private int firstError() {
            rewind();
            for (int left = TEXT_CHARACTERS; left > 0 && readNext(); left--) {
                if (place == length) {
                    return NONE;
                }
            }
            return place;
        }

        /** Reads a command, and the semicolon before it if it isn't the first one; false where that fails. */
        private boolean readNext() {
            if (place > 0) {
                if (here() != ';') {
                    return false;
                }
                place++;
            }
            if (here() == 'r') {
                operation = 'r';
                place++;
                return readNumber(1, MOST_FETCHES);
            }
            if (!readNumber(0, ADDRESSES - 1)) {
                return false;
            }
            address = number;
            return readOperation();
        }

        private boolean readOperation() {
            operation = here();
            switch (operation) {
                case '.':
                    place++;
                    return true;
                case 'j':
                case 'b':
                    place++;
                    return readNumber(0, ADDRESSES - 1);
                case 'p':
                    place++;
                    return readPattern();
                default:
                    return false;
            }
        }

        /** Reads one or two digits without a leading zero, as many as the highest number, below 100, lets in. */
        private boolean readNumber(int lowest, int highest) {
            int first = digitHere();
            if (first < lowest) {
                return false;
            }
            number = first;
            place++;
            int second = digitHere();
            if (first > 0 && second != NONE && first * 10 + second <= highest) {
                number = first * 10 + second;
                place++;
            }
            return true;
        }

        private boolean readPattern() {
            number = 0;
            outcomes = 0;
            for (int i = 0; i < MOST_OUTCOMES; i++) {
                int sign = here();
                if (sign != '0' && sign != '1') {
                    break;
                }
                number |= (sign - '0') << i;
                outcomes = i + 1;
                place++;
            }
            return outcomes > 0;
        }

        /** NONE, which is less than each number, where no digit stands. */
        private int digitHere() {
            int sign = here();
            return sign >= '0' && sign <= '9' ? sign - '0' : NONE;
        }

        private int here() {
            return place < length ? characters[place] : NONE;
        }
    }
}
