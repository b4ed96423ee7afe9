/** Terms: what one step of each kind does, what it costs, and that words are read by their bits. */
public final class MachineTest {
    private static final Due due = new Due("MachineTest");

    /** Does one step of a word with two registers poked, and tells a register, the cost and the place. */
    private static void one(String what, int word, int a, int b, int want, int cost) {
        BackSteps x = Words.machine(1020, 0, word);
        x.poke(2, a);
        x.poke(3, b);
        due.is(what + ": step(1)", x.step(1), 1);
        due.is(what + ": register 1", x.look(1, 1), want);
        due.is(what + ": the place", x.look(1, 264), 1);
        due.is(what + ": cost(0)", x.cost(0), cost);
        due.is(what + ": wrote(1)", x.wrote(1), 1);
    }

    private static void threes() {
        one("2", Words.three(2, 1, 2, 3), 5, 7, 12, 2);
        one("2 wraps", Words.three(2, 1, 2, 3), Integer.MAX_VALUE, 1, Integer.MIN_VALUE, 2);
        one("2 nothing new", Words.three(2, 1, 2, 3), 7, -7, 0, 1);
        one("3", Words.three(3, 1, 2, 3), 5, 7, -2, 2);
        one("3 wraps", Words.three(3, 1, 2, 3), Integer.MIN_VALUE, 1, Integer.MAX_VALUE, 2);
        one("4", Words.three(4, 1, 2, 3), 0b1100, 0b1010, 0b0110, 2);
        one("4 same", Words.three(4, 1, 2, 3), 99, 99, 0, 1);
        one("10", Words.three(10, 1, 2, 3), 256, 3, 32, 2);
        one("10 no sign", Words.three(10, 1, 2, 3), -1, 31, 1, 2);
        one("10 five bits", Words.three(10, 1, 2, 3), -2, 32, -2, 2);
        one("10 below 0", Words.three(10, 1, 2, 3), -2, -1, 1, 2);
        one("11", Words.three(11, 1, 2, 3), -6, 7, -42, 2);
        one("11 wraps", Words.three(11, 1, 2, 3), 1 << 20, 1 << 12, 0, 1);
        one("11 wraps below", Words.three(11, 1, 2, 3), 65536, 32768, Integer.MIN_VALUE, 2);
        one("12 below", Words.three(12, 1, 2, 3), -5, 3, 1, 2);
        one("12 same", Words.three(12, 1, 2, 3), 3, 3, 0, 1);
        one("12 above", Words.three(12, 1, 2, 3), Integer.MAX_VALUE, Integer.MIN_VALUE, 0, 1);
        one("1", Words.set(1, 1234), 0, 0, 1234, 2);
        one("1 below 0", Words.set(1, 0xffff), 0, 0, -1, 2);
        one("1 lowest", Words.set(1, 0x8000), 0, 0, -32768, 2);
        one("1 highest", Words.set(1, 0x7fff), 0, 0, 32767, 2);
        int unused = 1 << 27 | 1 << 23 | 1 << 19;
        one("bits that mean nothing", Words.three(2, 1, 2, 3) | unused | 0xffff, 5, 7, 12, 2);
    }

    private static void oneRegister() {
        BackSteps x = Words.machine(1020, 0, Words.three(2, 4, 4, 4), Words.three(3, 4, 4, 4));
        x.poke(4, 21);
        x.step(2);
        due.is("r is s and t", x.look(1, 4), 42);
        due.is("r less itself", x.look(2, 4), 0);
    }

    private static void memory() {
        BackSteps x = Words.machine(1020, 0, Words.store(1, 2, -3), Words.load(3, 2, 253), Words.store(4, 2, -3),
                Words.load(1, 5, -3), Words.store(1, 5, 300));
        x.poke(1, 77);
        x.poke(2, 1);
        x.poke(5, Integer.MIN_VALUE);
        due.is("memory steps", x.step(5), 5);
        due.is("stored at 254", x.look(1, 8 + 254), 77);
        due.is("stored cost", x.cost(0), 2);
        due.is("loaded from 254", x.look(2, 3), 77);
        due.is("stored 0", x.look(3, 8 + 254), 0);
        due.is("loaded from 253", x.look(4, 1), 0);
        due.is("stored 0 at 44", x.wrote(8 + 44), 5);
        due.is("stored 0 at 44 cost", x.cost(4), 1);
        due.is("memory 254 written", x.wrote(8 + 254), 3);
    }

    private static void jump(int place, int r, int n, int want, int cost) {
        BackSteps x = Words.machine(1020, 0, Words.set(1, 1), Words.jump(1, place - 1));
        x.program(place, Words.jump(r, n));
        x.step(3);
        String what = "jump by " + n + " at " + place;
        due.is(what, x.look(3, 264), want);
        due.is(what + " cost", x.cost(2), cost);
    }

    private static void places() {
        jump(20, 1, 5, 25, 2);
        jump(20, 1, -21, 63, 2);
        jump(20, 1, 64, 20, 2);
        jump(20, 1, 0, 20, 2);
        jump(20, 1, 1, 21, 1);
        jump(20, 1, -63, 21, 1);
        jump(20, 1, -32768, 20, 2);
        jump(20, 1, 32767, 19, 2);
        jump(20, 2, 5, 21, 1);
        jump(63, 2, 5, 0, 1);
        jump(63, 1, 1, 0, 1);
        BackSteps x = Words.machine(1020, 0, Words.jump(1, 63));
        x.poke(1, Integer.MIN_VALUE);
        x.program(63, Words.set(0, 0));
        x.step(2);
        due.is("63 and on is 0", x.look(2, 264), 0);
        due.is("63 and on costs", x.cost(1), 1);
    }

    private static void inputsAndOutputs() {
        BackSteps x = Words.machine(1020, 0, Words.take(1), Words.put(1), Words.put(1), Words.put(0), Words.take(2),
                Words.take(0));
        x.input(-5);
        x.input(0);
        due.is("waits behind five", x.step(9), 5);
        due.is("it waits", x.count(6), 3);
        due.is("taken", x.look(1, 1), -5);
        due.is("taken costs", x.cost(0), 3);
        due.is("put costs", x.cost(1), 2);
        due.is("first sum", x.look(2, 267), -5);
        due.is("second sum", x.look(3, 267), -160);
        due.is("third sum", x.look(4, 267), -4960);
        due.is("outputs", x.look(4, 266), 3);
        due.is("taken 0 costs", x.cost(4), 2);
        due.is("waiting is no step", x.count(0), 5);
        due.is("waiting place", x.look(5, 264), 5);
    }

    private static void stops() {
        int[] kinds = {0, 13, 14, 15};
        for (int kind : kinds) {
            BackSteps x = Words.machine(1020, 0, Words.set(1, 3), Words.word(kind, 7, 7, 7, -1));
            String what = "kind " + kind;
            due.is(what + " steps", x.step(2000), 2);
            due.is(what + " halted", x.look(2, 268), kind == 0 ? 1 : 2);
            due.is(what + " state", x.count(6), kind == 0 ? 1 : 2);
            due.is(what + " place", x.look(2, 264), 1);
            due.is(what + " costs", x.cost(1), 2);
            due.is(what + " goes no further", x.step(1), 0);
            due.is(what + " wrote nothing", x.wrote(7), -1);
            due.is(what + " ran before", x.look(1, 268), 0);
        }
    }

    public static void main(String[] args) {
        threes();
        oneRegister();
        memory();
        places();
        inputsAndOutputs();
        stops();
        due.end();
    }
}
