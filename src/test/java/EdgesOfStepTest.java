/** Terms, the edges of one step: each method tests one sentence, that it quotes. */
public final class EdgesOfStepTest {
    private static final Due due = new Due("EdgesOfStepTest");
    private static final int MIN = Integer.MIN_VALUE;
    private static final int MAX = Integer.MAX_VALUE;

    /** Register 1 behind one step of a word that reads registers 2 and 3. */
    private static void makes(int kind, int s, int t, int want) {
        BackSteps x = Words.machine(0, 0, Words.three(kind, 1, 2, 3));
        x.poke(1, 99);
        x.poke(2, s);
        x.poke(3, t);
        String what = "kind " + kind + " of " + s + " and " + t;
        due.is(what + ": step(1)", x.step(1), 1);
        due.is(what, x.look(1, 1), want);
    }

    private static void thirtyTwoBits() {
        due.says("Terms", "all 32 bits and 0 at first");
        int[] numbers = {MIN, MAX, -1, 1};
        for (int number : numbers) {
            BackSteps x = Words.machine(0, 0, Words.take(2), Words.store(2, 0, 255), Words.load(3, 0, 255));
            due.is("memory 255 at first", x.look(0, 263), 0);
            due.is("register 7 at first", x.look(0, 7), 0);
            due.is("word 63 at first", x.program(63, number), 0);
            due.is("word 63", x.program(63, 0), number);
            x.input(number);
            x.step(3);
            due.is("taken " + number, x.look(3, 2), number);
            due.is("stored " + number, x.look(3, 263), number);
            due.is("loaded " + number, x.look(3, 3), number);
        }
    }

    private static void kindBits() {
        due.says("Terms", "A word has its kind in the highest four bits");
        int[] states = {1, 0, 0, 0, 0, 0, 0, 0, 3, 0, 0, 0, 0, 2, 2, 2};
        for (int kind = 0; kind < 16; kind++) {
            int[] rests = {0, 0x0fffffff};
            for (int rest : rests) {
                BackSteps x = Words.machine(0, 0, kind << 28 | rest);
                // Kind 7 with n = -1 goes to place 63 only when its register is not 0, which none is.
                x.program(1, Words.set(0, 0));
                due.is("kind " + kind + " and " + rest + ": step(1)", x.step(1), kind == 8 ? 0 : 1);
                due.is("kind " + kind + " and " + rest + ": state", x.count(6), states[kind]);
            }
        }
    }

    private static void registerBits() {
        due.says("Terms", "r in bits 24 to 26, s in 20 to 22, t in 16 to 18");
        int between = 1 << 27 | 1 << 23 | 1 << 19;
        for (int k = 0; k < 8; k++) {
            int other = (k + 1) % 8;
            BackSteps x = Words.machine(1020, 0, Words.word(3, k, k, other, -1) | between);
            x.poke(k, 50);
            x.poke(other, 8);
            x.step(1);
            due.is("r and s are " + k + ", t is " + other, x.look(1, k), 42);
            due.is("r is " + k, x.wrote(k), 1);
            BackSteps y = Words.machine(1020, 0, Words.word(3, 0, other, k, 0) | between);
            y.poke(k, 50);
            y.poke(other, 8);
            y.step(1);
            due.is("s is " + other + ", t is " + k, y.look(1, 0), -42);
        }
    }

    private static void numberBits() {
        due.says("Terms", "n in the lowest 16 (below 0 when the highest of these is 1)");
        int[][] pairs = {{0, 0}, {1, 1}, {0x7fff, 32767}, {0x8000, -32768}, {0x8001, -32767}, {0xffff, -1}};
        for (int[] pair : pairs) {
            BackSteps x = Words.machine(0, 0, Words.set(1, 0) | pair[0] | 0x00ff0000);
            x.poke(1, 99);
            x.step(1);
            due.is("n is " + pair[0], x.look(1, 1), pair[1]);
        }
    }

    private static void nextPlace() {
        due.says("Terms", "the place is (place + 1) modulo 64 behind it, if nothing else is said");
        for (int kind = 1; kind <= 12; kind++) {
            int[] places = {0, 62, 63};
            for (int place : places) {
                BackSteps x = Words.standingAt(place);
                x.input(5);
                x.program(place, Words.word(kind, 1, 2, 3, 9));
                due.is("kind " + kind + " at " + place + ": step(1)", x.step(1), 1);
                due.is("behind kind " + kind + " at " + place, x.look(2, 264), place == 63 ? 0 : place + 1);
            }
        }
    }

    private static void sums() {
        due.says("Terms", "Sums and products have 32 bits.");
        makes(2, MAX, 1, MIN);
        makes(2, MIN, -1, MAX);
        makes(2, MIN, MIN, 0);
        makes(2, MAX, MAX, -2);
        makes(3, MIN, 1, MAX);
        makes(3, MAX, -1, MIN);
        makes(3, 0, MIN, MIN);
        makes(3, MIN, MAX, 1);
        makes(11, MAX, MAX, 1);
        makes(11, MIN, -1, MIN);
        makes(11, MIN, MIN, 0);
        makes(11, 65536, 65536, 0);
        makes(11, 46341, 46341, -2147479015);
        makes(11, MAX, 2, -2);
    }

    private static void halted() {
        due.says("Terms", "0 it is HALTED, the place stays.");
        int[] places = {0, 1, 63};
        for (int place : places) {
            BackSteps x = Words.standingAt(place);
            x.program(place, Words.HALT);
            due.is("step(5) at " + place, x.step(5), 1);
            due.is("the place", x.look(2, 264), place);
            due.is("it is halted", x.look(2, 268), 1);
            due.is("no step more", x.step(1), 0);
            due.is("the time", x.count(0), 2);
        }
    }

    private static void faults() {
        due.says("Terms", "13 to 15: it is halted with a FAULT, the place stays.");
        for (int kind = 13; kind <= 15; kind++) {
            int[] places = {0, 1, 63};
            for (int place : places) {
                BackSteps x = Words.standingAt(place);
                x.program(place, Words.word(kind, 1, 2, 3, 4));
                due.is("kind " + kind + ", step(5) at " + place, x.step(5), 1);
                due.is("the place", x.look(2, 264), place);
                due.is("a fault", x.look(2, 268), 2);
                due.is("no step more", x.step(1), 0);
                due.is("the time", x.count(0), 2);
            }
        }
    }

    /** Loads by one address, and stores by it. */
    private static void addresses(int s, int n, int want) {
        String what = "s " + s + ", n " + n;
        BackSteps x = Words.machine(1020, 0, Words.load(1, 2, n), Words.store(3, 2, n));
        x.poke(2, s);
        x.poke(3, 55);
        x.poke(8 + want, 44);
        due.is(what + ": step(2)", x.step(2), 2);
        due.is(what + " is loaded", x.look(2, 1), 44);
        due.is(what + " is stored", x.look(2, 8 + want), 55);
        due.is(what + " was written", x.wrote(8 + want), 2);
    }

    private static void memoryModulo() {
        due.says("Terms", "5 r is memory ((s + n) modulo 256, not below 0). 6 that memory word is r.");
        addresses(0, 0, 0);
        addresses(0, 255, 255);
        addresses(0, 256, 0);
        addresses(255, 0, 255);
        addresses(255, 1, 0);
        addresses(256, 0, 0);
        addresses(256, -1, 255);
        addresses(0, -1, 255);
        addresses(-1, 0, 255);
        addresses(-1, 1, 0);
        addresses(-256, 0, 0);
        addresses(-257, 0, 255);
        addresses(0, 32767, 255);
        addresses(0, -32768, 0);
        addresses(1, -32768, 1);
        addresses(MIN, 0, 0);
        addresses(MIN, -1, 255);
        addresses(MAX, 0, 255);
        addresses(MAX, 1, 0);
        addresses(MAX, 32767, 254);
    }

    private static void jumps(int place, int r, int n, int want) {
        BackSteps x = Words.standingAt(place);
        x.poke(1, r);
        x.program(place, Words.jump(1, n));
        x.step(1);
        due.is("at " + place + " by " + n + " with " + r, x.look(2, 264), want);
    }

    private static void jumpModulo() {
        due.says("Terms", "7 when r is not 0 the place is (place + n) modulo 64, not below 0.");
        int[] notZero = {1, -1, MIN, MAX, 256};
        for (int r : notZero) {
            jumps(10, r, 20, 30);
        }
        jumps(10, 0, 20, 11);
        jumps(63, 0, 20, 0);
        jumps(0, 1, 0, 0);
        jumps(0, 1, 63, 63);
        jumps(0, 1, 64, 0);
        jumps(0, 1, -1, 63);
        jumps(0, 1, -64, 0);
        jumps(0, 1, -65, 63);
        jumps(63, 1, 0, 63);
        jumps(63, 1, 1, 0);
        jumps(63, 1, 64, 63);
        jumps(63, 1, -63, 0);
        jumps(63, 1, -64, 63);
        jumps(63, 1, 32767, 62);
        jumps(0, 1, 32767, 63);
        jumps(0, 1, -32768, 0);
        jumps(63, 1, -32768, 63);
    }

    private static void waits() {
        due.says("Terms", "8 r is the next input; when there is none, no step is done: it WAITS until there is one.");
        BackSteps x = Words.machine(1020, 0, Words.set(1, 6), Words.take(1), Words.take(1));
        due.is("step(3)", x.step(3), 1);
        for (int k = 0; k < 3; k++) {
            due.is("it waits, step(1)", x.step(1), 0);
            due.counts("it waits", x, 1, 0, 2, 0, 2, 3);
            due.is("the place stays", x.look(1, 264), 1);
            due.is("the register stays", x.look(1, 1), 6);
            due.is("none was taken", x.look(1, 265), 0);
            due.is("it is not halted", x.look(1, 268), 0);
        }
        x.input(MIN);
        due.is("there is one, step(3)", x.step(3), 1);
        due.is("the input", x.look(2, 1), MIN);
        due.is("one was taken", x.look(2, 265), 1);
        due.is("it waits again", x.count(6), 3);
        x.input(0);
        x.input(8);
        due.is("step(1)", x.step(1), 1);
        due.is("the next input", x.look(3, 1), 0);
        due.is("two were taken", x.look(3, 265), 2);
    }

    private static void outputSum() {
        due.says("Terms", "9 outputs are one more, the sum is 31 times itself and r.");
        BackSteps x = Words.machine(1020, 0, Words.put(0), Words.put(1), Words.put(2), Words.put(3), Words.put(0));
        x.poke(1, MAX);
        x.poke(2, MIN);
        x.poke(3, -1);
        x.step(5);
        int[] sums = {0, 0, MAX, -31, -962, -29822};
        for (int time = 0; time <= 5; time++) {
            due.is("outputs at " + time, x.look(time, 266), time);
            due.is("the sum at " + time, x.look(time, 267), sums[time]);
        }
    }

    private static void movedDown() {
        due.says("Terms", "10 r is s moved down by (t's lowest five bits) without sign.");
        makes(10, -1, 0, -1);
        makes(10, -1, 1, MAX);
        makes(10, -1, 31, 1);
        makes(10, -1, 32, -1);
        makes(10, -1, 33, MAX);
        makes(10, -1, -1, 1);
        makes(10, -1, -32, -1);
        makes(10, MIN, 31, 1);
        makes(10, MIN, 30, 2);
        makes(10, MAX, 30, 1);
        makes(10, MAX, 31, 0);
        makes(10, 7, MIN, 7);
        makes(10, 7, MAX, 0);
    }

    private static void below() {
        due.says("Terms", "12 r is 1 when s is below t, else 0.");
        makes(12, 4, 5, 1);
        makes(12, 5, 5, 0);
        makes(12, 6, 5, 0);
        makes(12, -1, 0, 1);
        makes(12, 0, -1, 0);
        makes(12, MIN, MAX, 1);
        makes(12, MAX, MIN, 0);
        makes(12, MIN, MIN, 0);
        makes(12, MIN, 1, 1);
    }

    private static void exclusiveOr() {
        due.says("Terms", "4 r is the exclusive or of s and t.");
        makes(4, MIN, MAX, -1);
        makes(4, -1, -1, 0);
        makes(4, -1, 0, -1);
        makes(4, 0b1100, 0b1010, 0b0110);
    }

    public static void main(String[] args) {
        thirtyTwoBits();
        kindBits();
        registerBits();
        numberBits();
        nextPlace();
        sums();
        halted();
        faults();
        memoryModulo();
        jumpModulo();
        waits();
        outputSum();
        movedDown();
        below();
        exclusiveOr();
        due.end();
    }
}
