/** Promises 1 to 4, what is given to the object: each method tests one sentence, that it quotes. */
public final class EdgesOfGivingTest {
    private static final Due due = new Due("EdgesOfGivingTest");
    private static final int MIN = Integer.MIN_VALUE;
    private static final int MAX = Integer.MAX_VALUE;

    /** An object in the midst of a run: rows are kept, some went, and an input waits to be taken. */
    private static BackSteps busy() {
        BackSteps x = Words.machine(6, 1, Words.take(1), Words.store(1, 0, 255), Words.put(1), Words.set(2, 3),
                Words.set(3, 4), Words.jump(3, 9));
        x.input(21);
        x.input(22);
        x.step(6);
        return x;
    }

    private static void rooms() {
        due.says("Promise 1", "The room is 4 + (room modulo 1021) .. (rests not below 0)");
        int[][] pairs = {{0, 4}, {1, 5}, {1019, 1023}, {1020, 1024}, {1021, 4}, {1022, 5}, {-1, 1024}, {-2, 1023},
            {-1020, 5}, {-1021, 4}, {-1022, 1024}, {MAX, 57}, {MIN, 971}};
        for (int[] pair : pairs) {
            BackSteps x = Words.filled(pair[0], 0, Words.set(0, 0));
            due.is("room " + pair[0] + ": steps", x.step(pair[1]), pair[1]);
            due.counts("room " + pair[0] + ", just full", x, pair[1], 0, pair[1], 0, pair[1] + 1, 0);
            x.step(1);
            due.counts("room " + pair[0] + ", one more", x, pair[1] + 1, 1, pair[1], 1, pair[1] + 1, 0);
        }
    }

    private static void marks() {
        due.says("Promise 1", "marks are at times that 1 + (every modulo 64) divides (rests not below 0)");
        int[][] pairs = {{0, 1}, {1, 2}, {62, 63}, {63, 64}, {64, 1}, {65, 2}, {-1, 64}, {-2, 63}, {-63, 2},
            {-64, 1}, {-65, 64}, {MAX, 64}, {MIN, 1}};
        for (int[] pair : pairs) {
            BackSteps x = Words.filled(1020, pair[0], Words.set(0, 0));
            String what = "every " + pair[0];
            due.is(what + ", time 0 is at a mark", x.count(5), 1);
            x.step(pair[1]);
            due.is(what + ", at the next mark", x.count(5), 2);
            x.back(pair[1] - 1);
            due.is(what + ", before the next mark", x.count(5), 1);
            x.step(1001 - pair[1]);
            due.is(what + ", at time 1000", x.count(5), 1 + 1000 / pair[1]);
        }
    }

    private static void nothingKept() {
        due.says("Promise 1", "Time 0; nothing is kept but time 0.");
        BackSteps x = new BackSteps(5, 5);
        due.counts("new", x, 0, 0, 0, 0, 1, 0);
        due.is("given", x.count(4), 0);
        due.is("back(0)", x.back(0), 0);
        due.is("look(0, 268)", x.look(0, 268), 0);
        due.is("when(0, 0, 0)", x.when(0, 0, 0), 0);
        due.is("when(0, 0, 1)", x.when(0, 0, 1), -1);
        due.is("wrote(0)", x.wrote(0), -1);
        due.is("replay()", x.replay(), -1);
        int[] others = {1, -1, MIN, MAX};
        for (int time : others) {
            due.illegal("back(" + time + ")", () -> x.back(time));
            due.illegal("look(" + time + ", 0)", () -> x.look(time, 0));
            due.illegal("when(" + time + ", 0, 0)", () -> x.when(time, 0, 0));
            due.illegal("cost(" + time + ")", () -> x.cost(time));
        }
        due.illegal("cost(0)", () -> x.cost(0));
    }

    private static void wordBefore() {
        due.says("Promise 2", "Word i of the program: the one before.");
        BackSteps x = new BackSteps(0, 0);
        int[] words = {0, 1, 62, 63};
        for (int i : words) {
            due.is("word " + i + " at first", x.program(i, MIN + i), 0);
        }
        for (int i : words) {
            due.is("word " + i, x.program(i, MAX - i), MIN + i);
            due.is("word " + i + " again", x.program(i, 0), MAX - i);
        }
    }

    private static void programElse() {
        due.says("Promise 2", "(Nothing else changes.)");
        BackSteps x = busy();
        String before = Seen.of(x);
        x.program(40, Words.fault());
        due.same("a word that was not done", Seen.of(x), before);
        BackSteps y = Words.machine(1020, 0, Words.HALT);
        y.step(1);
        y.program(0, Words.set(1, 1));
        due.is("halted stays halted", y.count(6), 1);
        due.is("no step", y.step(1), 0);
        due.is("the row's cost stays", y.cost(0), 2);
        due.is("the kept state stays", y.look(1, 1), 0);
        BackSteps z = Words.machine(1020, 0, Words.fault());
        z.step(1);
        z.program(0, Words.set(1, 1));
        due.is("a fault stays a fault", z.count(6), 2);
    }

    private static void noWord() {
        due.says("Promise 2", "IndexOutOfBoundsException, when there is none.");
        BackSteps x = busy();
        x.program(0, 70);
        x.program(63, 71);
        String before = Seen.of(x);
        int[] none = {64, -1, 65, 128, -64, MIN, MAX};
        for (int i : none) {
            due.outside("program(" + i + ", 5)", () -> x.program(i, 5));
        }
        due.same("a refused call changes nothing", Seen.of(x), before);
        due.is("word 0 stays", x.program(0, 0), 70);
        due.is("word 63 stays", x.program(63, 0), 71);
    }

    private static void inputsLeft() {
        due.says("Promise 3", "An input more: how many there are that were not taken.");
        BackSteps x = Words.filled(1020, 0, Words.take(1));
        due.is("the first", x.input(5), 1);
        due.is("the second", x.input(5), 2);
        x.step(2);
        due.is("when all were taken", x.input(5), 1);
        x.step(9);
        x.back(1);
        due.is("behind going back", x.input(5), 3);
        x.back(0);
        due.is("behind going back to the beginning", x.input(5), 5);
        due.is("given", x.count(4), 5);
    }

    private static void noInputMore() {
        due.says("Promise 3", "UnsupportedOperationException, when 200 were given.");
        BackSteps x = Words.machine(1020, 0, Words.take(1), Words.set(2, 1), Words.jump(2, -2));
        for (int k = 1; k <= 199; k++) {
            x.input(k);
        }
        due.is("199 were given", x.count(4), 199);
        due.is("the 200th", x.input(MIN), 200);
        String before = Seen.of(x);
        int[] numbers = {0, MIN, MAX};
        for (int v : numbers) {
            due.fails("the 201st, " + v, UnsupportedOperationException.class, () -> x.input(v));
        }
        due.same("a refused call changes nothing", Seen.of(x), before);
        due.is("steps", x.step(2000), 600);
        due.is("the 200th is taken", x.look(600, 1), MIN);
        due.is("it waits", x.count(6), 3);
        due.fails("though all were taken", UnsupportedOperationException.class, () -> x.input(0));
        x.back(598);
        due.fails("nor behind going back", UnsupportedOperationException.class, () -> x.input(0));
        x.poke(0, 0);
        due.fails("nor by hand", UnsupportedOperationException.class, () -> x.input(0));
        due.is("given", x.count(4), 200);
    }

    private static void byHand() {
        due.says("Promise 4",
                "Register i, or memory word i - 8 (i up to 263), is another number, by hand: the one before.");
        BackSteps x = Words.machine(1020, 0, Words.load(1, 0, 0), Words.load(2, 0, 255));
        int[] places = {0, 7, 8, 9, 262, 263};
        for (int i : places) {
            due.is("poke(" + i + ") at first", x.poke(i, MIN), 0);
            due.is("poke(" + i + ")", x.poke(i, i), MIN);
        }
        for (int i : places) {
            due.is("look(0, " + i + ")", x.look(0, i), i);
        }
        x.poke(0, 0);
        x.step(2);
        due.is("8 is memory word 0", x.look(2, 1), 8);
        due.is("263 is memory word 255", x.look(2, 2), 263);
        x.poke(1, 5);
        due.is("memory word 0 is not register 0 or 1", x.look(2, 8), 8);
    }

    private static void allRowsGo() {
        due.says("Promise 4", "All rows go: nothing earlier is kept.");
        BackSteps x = busy();
        due.counts("before", x, 6, 1, 10, 1, 3, 0);
        x.poke(100, 5);
        due.counts("behind", x, 6, 6, 0, 6, 1, 0);
        due.is("look(6, 100)", x.look(6, 100), 5);
        due.illegal("look(5, 0)", () -> x.look(5, 0));
        due.illegal("back(5)", () -> x.back(5));
        due.illegal("when(5, 0, 0)", () -> x.when(5, 0, 0));
        due.illegal("cost(5)", () -> x.cost(5));
        due.is("wrote(3)", x.wrote(3), -1);
        due.is("wrote(100), by hand is no step", x.wrote(100), -1);
        due.is("replay()", x.replay(), -1);
        due.is("back(6)", x.back(6), 0);
        x.poke(100, 6);
        due.counts("again: none are left to go", x, 6, 6, 0, 6, 1, 0);
        BackSteps y = busy();
        y.poke(3, 4);
        due.counts("with the number that it had", y, 6, 6, 0, 6, 1, 0);
    }

    private static void noPlace() {
        due.says("Promise 4", "IndexOutOfBoundsException, when there is none.");
        BackSteps x = busy();
        String before = Seen.of(x);
        int[] none = {264, -1, 265, 268, -8, MIN, MAX};
        for (int i : none) {
            due.outside("poke(" + i + ", 5)", () -> x.poke(i, 5));
        }
        due.same("a refused call changes nothing", Seen.of(x), before);
    }

    public static void main(String[] args) {
        rooms();
        marks();
        nothingKept();
        wordBefore();
        programElse();
        noWord();
        inputsLeft();
        noInputMore();
        byHand();
        allRowsGo();
        noPlace();
        due.end();
    }
}
