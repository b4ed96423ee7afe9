/**
 * A small machine that can be stepped back: what each step changed is kept in rows of different cost,
 * in so much room, and the oldest go.
 */
public final class BackSteps {
    public static final int NONE = -1;

    private static final int PROGRAM_WORDS = 64;
    private static final int PLACE_MASK = PROGRAM_WORDS - 1;
    private static final int REGISTERS = 8;
    private static final int MEMORY_MASK = 255;
    /** Registers and memory words stand in one array, numbered as the public calls number them. */
    private static final int NUMBERS = REGISTERS + MEMORY_MASK + 1;

    /** What look tells behind the registers and memory words. */
    private static final int PLACE = NUMBERS;
    private static final int TAKEN = NUMBERS + 1;
    private static final int OUTPUTS = NUMBERS + 2;
    private static final int SUM = NUMBERS + 3;
    private static final int HALTED = NUMBERS + 4;

    private static final int STATE_RUNS = 0;
    private static final int STATE_HALTED = 1;
    private static final int STATE_FAULT = 2;
    private static final int STATE_WAITS = 3;

    private static final int MOST_INPUTS = 200;
    private static final int MOST_STEPS = 2000;
    private static final int LEAST_ROOM = 4;
    private static final int ROOMS = 1021;
    private static final int MARK_DISTANCES = 64;

    private final int markDistance;
    private final int[] program = new int[PROGRAM_WORDS];
    private final int[] inputs = new int[MOST_INPUTS];
    private int given;
    private final Machine machine = new Machine();
    /** Made once, since every replay needs a machine of its own. */
    private final Machine again = new Machine();
    private final Rows rows;

    public BackSteps(int room, int every) {
        rows = new Rows(LEAST_ROOM + Math.floorMod(room, ROOMS));
        markDistance = 1 + Math.floorMod(every, MARK_DISTANCES);
    }

    public int program(int i, int word) throws IndexOutOfBoundsException {
        if (i < 0 || i >= PROGRAM_WORDS) {
            throw new IndexOutOfBoundsException("no such word of the program");
        }
        int before = program[i];
        program[i] = word;
        return before;
    }

    public int input(int v) throws UnsupportedOperationException {
        if (given >= MOST_INPUTS) {
            throw new UnsupportedOperationException("all inputs were given");
        }
        inputs[given] = v;
        given++;
        return given - machine.taken;
    }

    public int poke(int i, int v) throws IndexOutOfBoundsException {
        checkNumber(i);
        int before = machine.numbers[i];
        machine.numbers[i] = v;
        rows.dropAll();
        return before;
    }

    public int step(int n) throws IllegalArgumentException {
        if (n < 1 || n > MOST_STEPS) {
            throw new IllegalArgumentException("not a number of steps");
        }
        int done = 0;
        while (done < n && machine.advance(program, inputs, given)) {
            rows.keep(machine);
            done++;
        }
        return done;
    }

    public int back(int time) throws IllegalArgumentException {
        checkTime(time);
        int steps = rows.now - time;
        rows.undoDownTo(time, machine);
        rows.forgetBehind(time);
        return steps;
    }

    public int look(int time, int i) throws IllegalArgumentException, IndexOutOfBoundsException {
        checkTime(time);
        if (i < 0 || i > HALTED) {
            throw new IndexOutOfBoundsException("nothing to look at");
        }
        return i < NUMBERS ? numberAt(time, i) : restAt(time, i);
    }

    public int wrote(int i) throws IndexOutOfBoundsException {
        checkNumber(i);
        for (int time = rows.now; time > rows.oldest; time--) {
            if (rows.writtenBy(time - 1) == i) {
                return time;
            }
        }
        return NONE;
    }

    public int when(int time, int i, int v) throws IllegalArgumentException, IndexOutOfBoundsException {
        checkTime(time);
        checkNumber(i);
        int number = numberAt(time, i);
        for (int t = time; t > rows.oldest; t--) {
            if (number == v) {
                return t;
            }
            number = rows.numberBefore(t - 1, i, number);
        }
        return number == v ? rows.oldest : NONE;
    }

    public int replay() {
        again.copyFrom(machine);
        rows.undoDownTo(rows.oldest, again);
        for (int time = rows.oldest; time < rows.now; time++) {
            boolean reached = again.advance(program, inputs, machine.taken);
            if (!reached || !rows.sameNumbersBehind(time, again) || !sameRestAt(time + 1)) {
                return time + 1;
            }
        }
        return NONE;
    }

    public int cost(int time) throws IllegalArgumentException {
        if (time < rows.oldest || time >= rows.now) {
            throw new IllegalArgumentException("no row is kept from this time on");
        }
        return rows.costOf(time);
    }

    public int count(int what) {
        switch (what) {
            case 0:
                return rows.now;
            case 1:
                return rows.oldest;
            case 2:
                return rows.spent;
            case 3:
                return rows.gone;
            case 4:
                return given;
            case 5:
                return marksKept();
            case 6:
                return state();
            default:
                return NONE;
        }
    }

    private void checkNumber(int i) {
        if (i < 0 || i >= NUMBERS) {
            throw new IndexOutOfBoundsException("no such register or memory word");
        }
    }

    private void checkTime(int time) {
        if (time < rows.oldest || time > rows.now) {
            throw new IllegalArgumentException("the time is not kept");
        }
    }

    private int numberAt(int time, int i) {
        int number = machine.numbers[i];
        for (int t = rows.now; t > time; t--) {
            number = rows.numberBefore(t - 1, i, number);
        }
        return number;
    }

    private int restAt(int time, int i) {
        return time == rows.now ? machine.rest(i) : rows.restBefore(time, i);
    }

    private boolean sameRestAt(int time) {
        for (int i = PLACE; i <= HALTED; i++) {
            if (again.rest(i) != restAt(time, i)) {
                return false;
            }
        }
        return true;
    }

    private int marksKept() {
        return Math.floorDiv(rows.now, markDistance) - Math.floorDiv(rows.oldest - 1, markDistance);
    }

    private int state() {
        return machine.wouldWait(program, given) ? STATE_WAITS : machine.halted;
    }

    /** The machine at one time, and what its latest step found before it. */
    private static final class Machine {
        private static final int HALT = 0;
        private static final int SET = 1;
        private static final int ADD = 2;
        private static final int SUBTRACT = 3;
        private static final int EXCLUSIVE_OR = 4;
        private static final int LOAD = 5;
        private static final int STORE = 6;
        private static final int JUMP = 7;
        private static final int TAKE = 8;
        private static final int PUT = 9;
        private static final int MOVE_DOWN = 10;
        private static final int MULTIPLY = 11;
        private static final int BELOW = 12;

        private static final int REGISTER_MASK = REGISTERS - 1;

        final int[] numbers = new int[NUMBERS];
        /** Always masked when it is set, so that it is an index of the program. */
        int place;
        int taken;
        int outputs;
        int sum;
        int halted = STATE_RUNS;

        /** The register or memory word that the latest step wrote, or NONE. */
        int written = NONE;
        int numberBefore;
        int placeBefore;
        int takenBefore;
        int outputsBefore;
        int sumBefore;

        void copyFrom(Machine other) {
            System.arraycopy(other.numbers, 0, numbers, 0, NUMBERS);
            place = other.place;
            taken = other.taken;
            outputs = other.outputs;
            sum = other.sum;
            halted = other.halted;
        }

        int rest(int i) {
            switch (i) {
                case PLACE:
                    return place;
                case TAKEN:
                    return taken;
                case OUTPUTS:
                    return outputs;
                case SUM:
                    return sum;
                default:
                    return halted;
            }
        }

        boolean wouldWait(int[] program, int available) {
            return halted == STATE_RUNS && program[place] >>> 28 == TAKE && taken >= available;
        }

        /** Does one step, if it runs and need not wait; whether it did. */
        boolean advance(int[] program, int[] inputs, int available) {
            if (halted != STATE_RUNS || wouldWait(program, available)) {
                return false;
            }
            int word = program[place];
            rememberBefore();
            place = (place + 1) & PLACE_MASK;
            int kind = word >>> 28;
            if (kind == TAKE) {
                write(register(word, 24), inputs[taken]);
                taken++;
            } else if (kind >= LOAD && kind <= PUT) {
                moveNumbers(kind, word);
            } else {
                compute(kind, word);
            }
            return true;
        }

        private void rememberBefore() {
            written = NONE;
            placeBefore = place;
            takenBefore = taken;
            outputsBefore = outputs;
            sumBefore = sum;
        }

        private void moveNumbers(int kind, int word) {
            int r = register(word, 24);
            int n = (short) word;
            int memory = REGISTERS + ((numbers[register(word, 20)] + n) & MEMORY_MASK);
            switch (kind) {
                case LOAD:
                    write(r, numbers[memory]);
                    break;
                case STORE:
                    write(memory, numbers[r]);
                    break;
                case JUMP:
                    if (numbers[r] != 0) {
                        place = (placeBefore + n) & PLACE_MASK;
                    }
                    break;
                default:
                    outputs++;
                    sum = 31 * sum + numbers[r];
                    break;
            }
        }

        private void compute(int kind, int word) {
            int r = register(word, 24);
            int a = numbers[register(word, 20)];
            int b = numbers[register(word, 16)];
            switch (kind) {
                case HALT:
                    stop(STATE_HALTED);
                    break;
                case SET:
                    write(r, (short) word);
                    break;
                case ADD:
                    write(r, a + b);
                    break;
                case SUBTRACT:
                    write(r, a - b);
                    break;
                case EXCLUSIVE_OR:
                    write(r, a ^ b);
                    break;
                case MOVE_DOWN:
                    write(r, a >>> (b & 31));
                    break;
                case MULTIPLY:
                    write(r, a * b);
                    break;
                case BELOW:
                    write(r, a < b ? 1 : 0);
                    break;
                default:
                    stop(STATE_FAULT);
                    break;
            }
        }

        private static int register(int word, int lowestBit) {
            return (word >>> lowestBit) & REGISTER_MASK;
        }

        private void write(int i, int number) {
            written = i;
            numberBefore = numbers[i];
            numbers[i] = number;
        }

        private void stop(int how) {
            halted = how;
            place = placeBefore;
        }

        /** Whether the latest step left all registers and memory words but one as they were. */
        boolean changedNothingBut(int i) {
            return !changedNumber() || written == i;
        }

        private boolean changedNumber() {
            return written != NONE && numbers[written] != numberBefore;
        }

        int costOfLatest() {
            int cost = 1;
            if (changedNumber()) {
                cost++;
            }
            if (place != ((placeBefore + 1) & PLACE_MASK)) {
                cost++;
            }
            if (taken != takenBefore) {
                cost++;
            }
            if (outputs != outputsBefore) {
                cost++;
            }
            return cost;
        }
    }

    /** The kept rows, those of the steps from the times oldest to now - 1 on. */
    private static final class Rows {
        /** A row costs at least 1, so there are never more rows than the widest room, 1024. */
        private static final int SLOTS = 1024;
        private static final int SLOT_MASK = SLOTS - 1;

        private final int room;
        int now;
        int oldest;
        int spent;
        int gone;

        private final int[] costs = new int[SLOTS];
        private final int[] written = new int[SLOTS];
        private final int[] numbersBefore = new int[SLOTS];
        private final int[] numbersBehind = new int[SLOTS];
        private final int[] places = new int[SLOTS];
        private final int[] takens = new int[SLOTS];
        private final int[] outputs = new int[SLOTS];
        private final int[] sums = new int[SLOTS];

        Rows(int room) {
            this.room = room;
        }

        /** Kept times follow one another, so the lowest bits of a time tell its row's slot. */
        private static int slot(int time) {
            return time & SLOT_MASK;
        }

        void keep(Machine machine) {
            int cost = machine.costOfLatest();
            while (oldest < now && spent + cost > room) {
                spent -= costs[slot(oldest)];
                oldest++;
                gone++;
            }
            int k = slot(now);
            costs[k] = cost;
            written[k] = machine.written;
            numbersBefore[k] = machine.numberBefore;
            numbersBehind[k] = machine.written == NONE ? 0 : machine.numbers[machine.written];
            places[k] = machine.placeBefore;
            takens[k] = machine.takenBefore;
            outputs[k] = machine.outputsBefore;
            sums[k] = machine.sumBefore;
            spent += cost;
            now++;
        }

        void dropAll() {
            gone += now - oldest;
            oldest = now;
            spent = 0;
        }

        /** Rows that going back takes away are not among those that went for room or by hand. */
        void forgetBehind(int time) {
            while (now > time) {
                now--;
                spent -= costs[slot(now)];
            }
        }

        void undoDownTo(int time, Machine machine) {
            for (int t = now; t > time; t--) {
                undo(slot(t - 1), machine);
            }
        }

        private void undo(int k, Machine machine) {
            if (written[k] != NONE) {
                machine.numbers[written[k]] = numbersBefore[k];
            }
            machine.place = places[k];
            machine.taken = takens[k];
            machine.outputs = outputs[k];
            machine.sum = sums[k];
            machine.halted = STATE_RUNS;
        }

        int costOf(int time) {
            return costs[slot(time)];
        }

        int writtenBy(int time) {
            return written[slot(time)];
        }

        /** Register or memory word i before the step from a time on, when behind it it was so much. */
        int numberBefore(int time, int i, int behind) {
            int k = slot(time);
            return written[k] == i ? numbersBefore[k] : behind;
        }

        int restBefore(int time, int i) {
            int k = slot(time);
            switch (i) {
                case PLACE:
                    return places[k];
                case TAKEN:
                    return takens[k];
                case OUTPUTS:
                    return outputs[k];
                case SUM:
                    return sums[k];
                default:
                    // A step was done from this time on, so it ran.
                    return STATE_RUNS;
            }
        }

        /** Whether a machine that was as kept before this step has the kept numbers behind its own one. */
        boolean sameNumbersBehind(int time, Machine machine) {
            int k = slot(time);
            int i = written[k];
            return machine.changedNothingBut(i) && (i == NONE || machine.numbers[i] == numbersBehind[k]);
        }
    }
}
