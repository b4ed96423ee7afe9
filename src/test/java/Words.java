/** Writes the words of programs. */
final class Words {
    static final int HALT = 0;

    private Words() {
    }

    static int word(int kind, int r, int s, int t, int n) {
        return kind << 28 | r << 24 | s << 20 | t << 16 | (n & 0xffff);
    }

    static int set(int r, int n) {
        return word(1, r, 0, 0, n);
    }

    static int three(int kind, int r, int s, int t) {
        return word(kind, r, s, t, 0);
    }

    static int load(int r, int s, int n) {
        return word(5, r, s, 0, n);
    }

    static int store(int r, int s, int n) {
        return word(6, r, s, 0, n);
    }

    static int jump(int r, int n) {
        return word(7, r, 0, 0, n);
    }

    static int take(int r) {
        return word(8, r, 0, 0, 0);
    }

    static int put(int r) {
        return word(9, r, 0, 0, 0);
    }

    static int fault() {
        return word(13, 0, 0, 0, 0);
    }

    /** A new object with room and marks as the constructor's arguments ask, and a program from word 0 on. */
    static BackSteps machine(int room, int every, int... program) {
        BackSteps x = new BackSteps(room, every);
        for (int i = 0; i < program.length; i++) {
            x.program(i, program[i]);
        }
        return x;
    }

    /** A new object with the same word at all places. */
    static BackSteps filled(int room, int every, int word) {
        BackSteps x = new BackSteps(room, every);
        for (int i = 0; i < 64; i++) {
            x.program(i, word);
        }
        return x;
    }

    /** At time 1 a machine that stands at a place, with nothing earlier kept and all else as at first. */
    static BackSteps standingAt(int place) {
        BackSteps x = machine(1020, 0, jump(7, place));
        x.poke(7, 1);
        x.step(1);
        x.poke(7, 0);
        x.program(0, HALT);
        return x;
    }
}
