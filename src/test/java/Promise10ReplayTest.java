/** Promise 10: running what is kept again. */
public final class Promise10ReplayTest {
    private static final Due due = new Due("Promise10ReplayTest");
    private static final int[] PROGRAM = {Words.take(1), Words.store(1, 0, 9), Words.put(1), Words.set(2, 0),
        Words.jump(1, 2), Words.HALT, Words.set(3, 1), Words.HALT};
    private static final int STEPS = 7;

    /** What replay answers when one word is another one behind a whole run. */
    private static void changed(String what, int i, int word, int want) {
        BackSteps x = Words.machine(1020, 0, PROGRAM);
        x.input(7);
        x.input(7);
        due.is(what + ": steps", x.step(100), STEPS);
        due.is(what + ": as it was", x.replay(), -1);
        x.program(i, word);
        due.is(what, x.replay(), want);
        due.is(what + ": again", x.replay(), want);
        due.counts(what, x, STEPS, 0, 14, 0, STEPS + 1, 1);
        due.is(what + ": register", x.look(STEPS, 1), 7);
        due.is(what + ": memory", x.look(STEPS, 17), 7);
        due.is(what + ": taken", x.look(STEPS, 265), 1);
        x.program(i, PROGRAM[i]);
        due.is(what + ": the old word", x.replay(), -1);
    }

    public static void main(String[] args) {
        BackSteps empty = new BackSteps(0, 0);
        due.is("nothing but now", empty.replay(), -1);
        changed("a word that is never done", 5, Words.fault(), -1);
        changed("another number", 3, Words.set(2, 1), 4);
        changed("another register, with no other number", 3, Words.set(5, 0), -1);
        changed("another register, with another number", 6, Words.set(4, 1), 6);
        changed("no write", 1, Words.set(2, 0), 2);
        changed("another memory word", 1, Words.store(1, 0, 10), 2);
        changed("a number in place of an input", 0, Words.set(1, 7), 1);
        changed("an input into another register", 0, Words.take(2), 1);
        changed("another output", 2, Words.put(2), 3);
        changed("no output", 2, Words.set(2, 0), 3);
        changed("an output more", 3, Words.put(2), 4);
        changed("no jump", 4, Words.jump(2, 2), 5);
        changed("another place", 4, Words.jump(1, 3), 5);
        changed("the same place", 4, Words.jump(1, 66), -1);
        changed("an early halt", 3, Words.HALT, 4);
        changed("an early fault", 3, Words.fault(), 4);
        changed("a fault in place of a halt", 7, Words.fault(), 7);
        changed("it stays and runs", 7, Words.jump(1, 0), 7);
        changed("an input that was not taken", 3, Words.take(2), 4);

        BackSteps x = Words.machine(0, 0, Words.set(1, 1), Words.set(2, 2), Words.set(3, 3));
        x.step(3);
        x.program(0, Words.set(1, 9));
        due.is("a word of a row that went", x.replay(), -1);
        x.program(1, Words.set(2, 9));
        due.is("the oldest row's word", x.replay(), 2);
        x.poke(7, 7);
        due.is("nothing kept behind poke", x.replay(), -1);

        BackSteps y = Words.machine(1020, 0, Words.take(1), Words.take(2), Words.HALT);
        y.input(3);
        y.step(9);
        due.is("waiting now", y.replay(), -1);
        y.program(0, Words.set(1, 3));
        due.is("an input not taken at the end", y.replay(), 1);

        BackSteps z = Words.machine(1020, 0, Words.three(2, 1, 2, 2), Words.load(3, 0, 4), Words.HALT);
        z.poke(2, 21);
        z.poke(12, 5);
        z.step(9);
        due.is("numbers by hand before the oldest time", z.replay(), -1);
        z.program(1, Words.load(3, 0, 5));
        due.is("another word loaded", z.replay(), 2);
        due.end();
    }
}
