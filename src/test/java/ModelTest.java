/** Long runs of calls, each answer compared with the model's; the calls are the same in every run of the test. */
public final class ModelTest {
    private static final int RUNS = 500;
    /** Nothing is promised of an object behind so many calls, so all else is asked of the model. */
    private static final int CALLS = 512;
    private static final int[] EDGES = {0, 1, -1, 7, 8, 63, 64, 255, 256, 263, 264, 268, 269, 2000, 2001,
        Integer.MAX_VALUE, Integer.MIN_VALUE};

    private long seed;
    private final BackSteps x;
    private final Model model;
    private int calls = 0;

    private ModelTest(int run) {
        seed = 77L + run;
        int room = run % 3 == 0 ? below(30) : run % 3 == 1 ? any() : 900 + below(121);
        int every = run % 2 == 0 ? below(9) : any();
        x = new BackSteps(room, every);
        model = new Model(room, every);
    }

    private int any() {
        seed = seed * 6364136223846793005L + 1442695040888963407L;
        return (int) (seed >>> 32);
    }

    private int below(int bound) {
        return Math.floorMod(any() >>> 3, bound);
    }

    private int edge() {
        return EDGES[below(EDGES.length)];
    }

    /** Words that halt are rare, jumps go to near places, and few registers are used, so that runs are long. */
    private int word() {
        int kind = below(60) == 0 ? below(16) : 1 + below(12);
        int n = below(4) == 0 ? any() : below(9) - 4;
        return Words.word(kind, below(4), below(4), below(4), n) | (below(5) == 0 ? any() & 0x08880000 : 0);
    }

    private int time() {
        int now = counted(0);
        int oldest = counted(1);
        int pick = below(12);
        if (pick == 0) {
            return edge();
        }
        if (pick == 1) {
            return now + 1;
        }
        if (pick == 2) {
            return oldest - 1;
        }
        if (pick == 3) {
            return oldest;
        }
        return pick == 4 ? now : oldest + below(now - oldest + 1);
    }

    private int counted(int what) {
        return Integer.parseInt(model.count(what));
    }

    private int index() {
        int pick = below(10);
        if (pick == 0) {
            return edge();
        }
        return pick < 6 ? below(4) : pick < 8 ? 260 + below(10) : 8 + below(256);
    }

    private static String told(Due.Call call) {
        try {
            return "" + call.answer();
        } catch (RuntimeException e) {
            return "throws." + e.getClass().getSimpleName();
        }
    }

    /** One call on both; nothing when they agree, else what they said. */
    private String call(int kind, int a, int b, int c) {
        String got;
        String want;
        calls++;
        switch (kind) {
            case 0: got = told(() -> x.program(a, b)); want = model.program(a, b); break;
            case 1: got = told(() -> x.input(a)); want = model.input(a); break;
            case 2: got = told(() -> x.poke(a, b)); want = model.poke(a, b); break;
            case 3: got = told(() -> x.step(a)); want = model.step(a); break;
            case 4: got = told(() -> x.back(a)); want = model.back(a); break;
            case 5: got = told(() -> x.look(a, b)); want = model.look(a, b); break;
            case 6: got = told(() -> x.wrote(a)); want = model.wrote(a); break;
            case 7: got = told(() -> x.when(a, b, c)); want = model.when(a, b, c); break;
            case 8: got = told(() -> x.replay()); want = model.replay(); break;
            case 9: got = told(() -> x.cost(a)); want = model.cost(a); break;
            default: got = told(() -> x.count(a)); want = model.count(a); break;
        }
        return got.equals(want) ? null : "call " + kind + "(" + a + ", " + b + ", " + c + ") answered " + got
            + ", due is " + want;
    }

    private String next() {
        switch (below(24)) {
            case 0: return call(0, below(20) == 0 ? edge() : below(64), word(), 0);
            case 1: case 2: return call(1, below(2) == 0 ? below(3) : any(), 0, 0);
            case 3: return below(6) == 0 ? call(2, index(), below(2) == 0 ? below(3) : any(), 0) : null;
            case 4: case 5: case 6: return call(3, below(20) == 0 ? edge() : 1 + below(60), 0, 0);
            case 7: return call(3, 1 + below(200), 0, 0);
            case 8: return below(2) == 0 ? call(4, time(), 0, 0) : null;
            case 9: case 10: case 11: return call(5, time(), index(), 0);
            case 12: case 13: return call(6, index(), 0, 0);
            case 14: case 15: case 16: return call(7, time(), index(), below(2) == 0 ? below(3) : heldNumber());
            case 17: case 18: return call(8, 0, 0, 0);
            case 19: return call(9, time(), 0, 0);
            default: return call(10, below(9) - 1, 0, 0);
        }
    }

    private int heldNumber() {
        int oldest = counted(1);
        return Integer.parseInt(model.look(oldest + below(counted(0) - oldest + 1), below(4)));
    }

    private String run() {
        for (int i = 0; i < 64; i++) {
            call(0, i, word(), 0);
        }
        while (calls < CALLS) {
            String wrong = counted(6) == 1 || counted(6) == 2 ? goOn() : next();
            if (wrong != null) {
                return "call " + calls + ", " + wrong;
            }
        }
        return null;
    }

    /** A machine that stands would make the rest of the run dull: another word gets it going, if it goes back. */
    private String goOn() {
        if (below(3) != 0) {
            return next();
        }
        String wrong = call(0, Integer.parseInt(model.look(counted(0), 264)), word(), 0);
        int time = Math.max(counted(1), counted(0) - 1 - below(5));
        return wrong != null || calls == CALLS ? wrong : call(4, time, 0, 0);
    }

    public static void main(String[] args) {
        Due due = new Due("ModelTest");
        for (int run = 0; run < RUNS; run++) {
            String wrong = new ModelTest(run).run();
            due.is("run " + run + ": " + wrong, wrong == null ? 0 : 1, 0);
        }
        due.end();
    }
}
