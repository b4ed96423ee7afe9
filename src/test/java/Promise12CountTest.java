/** Promise 12: what count tells. */
public final class Promise12CountTest {
    private static final Due due = new Due("Promise12CountTest");

    private static void states() {
        BackSteps x = Words.machine(1020, 0, Words.take(1), Words.HALT);
        due.is("it would wait", x.count(6), 3);
        x.program(0, Words.put(1));
        due.is("another program: it runs", x.count(6), 0);
        x.program(0, Words.take(1));
        x.input(1);
        due.is("an input: it runs", x.count(6), 0);
        x.step(9);
        due.is("halted", x.count(6), 1);
        x.program(1, Words.take(1));
        due.is("halted, though the word would wait", x.count(6), 1);
        x.back(1);
        due.is("it would wait again", x.count(6), 3);
        x.program(1, Words.fault());
        due.is("a fault is none before its step", x.count(6), 0);
        x.step(1);
        due.is("a fault", x.count(6), 2);
        x.back(0);
        due.is("the input is there again", x.count(6), 0);
    }

    /** Marks are counted from the oldest kept time to now, both included. */
    private static void marks() {
        BackSteps x = Words.machine(4, 4, Words.set(1, 1));
        for (int i = 0; i < 64; i++) {
            x.program(i, Words.set(1, 0));
        }
        for (int time = 0; time < 100; time++) {
            int want = 0;
            for (int t = Math.max(0, time - 8); t <= time; t++) {
                want += t % 5 == 0 ? 1 : 0;
            }
            due.is("oldest at " + time, x.count(1), Math.max(0, time - 8));
            due.is("marks at " + time, x.count(5), want);
            x.step(1);
        }
    }

    private static void gone() {
        BackSteps x = new BackSteps(0, 0);
        for (int i = 0; i < 64; i++) {
            x.program(i, Words.set(1, 0));
        }
        x.step(10);
        due.counts("for room", x, 10, 6, 4, 6, 5, 0);
        x.back(8);
        due.counts("not by going back", x, 8, 6, 2, 6, 3, 0);
        x.poke(0, 1);
        due.counts("by hand", x, 8, 8, 0, 8, 1, 0);
        x.step(5);
        due.counts("for room again", x, 13, 9, 4, 9, 5, 0);
    }

    public static void main(String[] args) {
        BackSteps x = new BackSteps(0, 0);
        x.input(5);
        due.is("inputs given", x.count(4), 1);
        due.is("count(7)", x.count(7), -1);
        due.is("count(-1)", x.count(-1), -1);
        due.is("count(MAX)", x.count(Integer.MAX_VALUE), -1);
        due.is("count(MIN)", x.count(Integer.MIN_VALUE), -1);
        states();
        marks();
        gone();
        due.end();
    }
}
