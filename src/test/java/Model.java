import java.util.ArrayList;
import java.util.List;

/**
 * The document told a second time, in the most wasteful way: every kept time is a whole copy of the state.
 * An answer is a text: the number, or throws. and the exception's name.
 */
final class Model {
    private static final String ILLEGAL = "throws.IllegalArgumentException";
    private static final String OUTSIDE = "throws.IndexOutOfBoundsException";
    private static final int PLACE = 264;
    private static final int TAKEN = 265;
    private static final int OUTPUTS = 266;
    private static final int SUM = 267;
    private static final int HALTED = 268;

    private final int room;
    private final int distance;
    private final int[] program = new int[64];
    private final List<Integer> inputs = new ArrayList<>();
    /** States at the kept times; the last one is now. */
    private final List<int[]> states = new ArrayList<>();
    /** Of the steps between them: the cost, and what was written. */
    private final List<Integer> costs = new ArrayList<>();
    private final List<Integer> writes = new ArrayList<>();
    private int oldest = 0;
    private int gone = 0;

    Model(int room, int every) {
        this.room = 4 + Math.floorMod(room, 1021);
        this.distance = 1 + Math.floorMod(every, 64);
        states.add(new int[269]);
    }

    private int now() {
        return oldest + costs.size();
    }

    private int[] state() {
        return states.get(states.size() - 1);
    }

    private boolean kept(int time) {
        return time >= oldest && time <= now();
    }

    String program(int i, int word) {
        if (i < 0 || i > 63) {
            return OUTSIDE;
        }
        int before = program[i];
        program[i] = word;
        return "" + before;
    }

    String input(int v) {
        if (inputs.size() == 200) {
            return "throws.UnsupportedOperationException";
        }
        inputs.add(v);
        return "" + (inputs.size() - state()[TAKEN]);
    }

    String poke(int i, int v) {
        if (i < 0 || i > 263) {
            return OUTSIDE;
        }
        int[] s = state();
        int before = s[i];
        s[i] = v;
        gone += costs.size();
        oldest = now();
        states.clear();
        states.add(s);
        costs.clear();
        writes.clear();
        return "" + before;
    }

    /** Does one step on a state; what was written or -1, or -2 when no step can be done. */
    private int one(int[] s, int available) {
        long word = program[s[PLACE]] & 0xffffffffL;
        int kind = (int) (word / 268435456L);
        int r = (int) (word / 16777216L % 8);
        int a = s[(int) (word / 1048576L % 8)];
        int b = s[(int) (word / 65536L % 8)];
        int n = (int) (word % 65536L);
        n = n >= 32768 ? n - 65536 : n;
        int memory = 8 + (int) Math.floorMod((long) a + n, 256L);
        if (s[HALTED] != 0 || kind == 8 && s[TAKEN] >= available) {
            return -2;
        }
        int place = s[PLACE];
        s[PLACE] = (place + 1) % 64;
        if (kind == 0 || kind >= 13) {
            s[PLACE] = place;
            s[HALTED] = kind == 0 ? 1 : 2;
            return -1;
        }
        if (kind == 7) {
            s[PLACE] = s[r] != 0 ? Math.floorMod(place + n, 64) : s[PLACE];
            return -1;
        }
        if (kind == 9) {
            s[OUTPUTS]++;
            s[SUM] = (int) (31L * s[SUM] + s[r]);
            return -1;
        }
        if (kind == 6) {
            s[memory] = s[r];
            return memory;
        }
        long[] answers = {0, n, (long) a + b, (long) a - b, a ^ b, s[memory], 0, 0,
            kind == 8 ? inputs.get(s[TAKEN]) : 0, 0, (a & 0xffffffffL) >> Math.floorMod(b, 32),
            (long) a * b, a < b ? 1 : 0};
        s[r] = (int) answers[kind];
        s[TAKEN] += kind == 8 ? 1 : 0;
        return r;
    }

    private static int costBetween(int[] before, int[] behind) {
        int cost = 1;
        for (int i = 0; i < 264; i++) {
            cost += before[i] != behind[i] ? 1 : 0;
        }
        cost += behind[PLACE] != (before[PLACE] + 1) % 64 ? 1 : 0;
        cost += behind[TAKEN] != before[TAKEN] ? 1 : 0;
        cost += behind[OUTPUTS] != before[OUTPUTS] ? 1 : 0;
        return cost;
    }

    private int spent() {
        int all = 0;
        for (int c : costs) {
            all += c;
        }
        return all;
    }

    String step(int n) {
        if (n < 1 || n > 2000) {
            return ILLEGAL;
        }
        for (int done = 0; done < n; done++) {
            int[] s = state().clone();
            int written = one(s, inputs.size());
            if (written == -2) {
                return "" + done;
            }
            costs.add(costBetween(state(), s));
            states.add(s);
            writes.add(written);
            int spent = spent();
            while (spent > room) {
                spent -= costs.remove(0);
                writes.remove(0);
                states.remove(0);
                oldest++;
                gone++;
            }
        }
        return "" + n;
    }

    String back(int time) {
        if (!kept(time)) {
            return ILLEGAL;
        }
        int steps = now() - time;
        for (int k = 0; k < steps; k++) {
            states.remove(states.size() - 1);
            costs.remove(costs.size() - 1);
            writes.remove(writes.size() - 1);
        }
        return "" + steps;
    }

    String look(int time, int i) {
        if (!kept(time)) {
            return ILLEGAL;
        }
        return i < 0 || i > 268 ? OUTSIDE : "" + states.get(time - oldest)[i];
    }

    String wrote(int i) {
        if (i < 0 || i > 263) {
            return OUTSIDE;
        }
        int k = writes.lastIndexOf(i);
        return k < 0 ? "-1" : "" + (oldest + k + 1);
    }

    String when(int time, int i, int v) {
        if (!kept(time)) {
            return ILLEGAL;
        }
        if (i < 0 || i > 263) {
            return OUTSIDE;
        }
        int found = -1;
        for (int t = oldest; t <= time; t++) {
            found = states.get(t - oldest)[i] == v ? t : found;
        }
        return "" + found;
    }

    String replay() {
        int[] s = states.get(0).clone();
        for (int k = 1; k < states.size(); k++) {
            if (one(s, state()[TAKEN]) == -2 || !java.util.Arrays.equals(s, states.get(k))) {
                return "" + (oldest + k);
            }
        }
        return "-1";
    }

    String cost(int time) {
        return kept(time) && time != now() ? "" + costs.get(time - oldest) : ILLEGAL;
    }

    String count(int what) {
        int marks = 0;
        for (int t = oldest; t <= now(); t++) {
            marks += t % distance == 0 ? 1 : 0;
        }
        boolean waits = state()[HALTED] == 0 && program[state()[PLACE]] >>> 28 == 8
            && state()[TAKEN] == inputs.size();
        int[] all = {now(), oldest, spent(), gone, inputs.size(), marks, waits ? 3 : state()[HALTED]};
        return what < 0 || what > 6 ? "-1" : "" + all[what];
    }
}
