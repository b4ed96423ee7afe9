/** Promise 5: how many steps were done. */
public final class Promise05StepTest {
    public static void main(String[] args) {
        Due due = new Due("Promise05StepTest");
        BackSteps x = Words.machine(0, 0, Words.set(1, 1), Words.jump(1, 0));
        due.illegal("step(0)", () -> x.step(0));
        due.illegal("step(-1)", () -> x.step(-1));
        due.illegal("step(2001)", () -> x.step(2001));
        due.illegal("step(MAX)", () -> x.step(Integer.MAX_VALUE));
        due.illegal("step(MIN)", () -> x.step(Integer.MIN_VALUE));
        due.is("none was done", x.count(0), 0);
        due.is("step(1)", x.step(1), 1);
        due.is("step(2000)", x.step(2000), 2000);
        due.counts("room for two rows of 2", x, 2001, 1999, 4, 1999, 3, 0);

        BackSteps y = Words.machine(1020, 0, Words.set(1, 1), Words.take(2), Words.HALT);
        due.is("waits", y.step(2000), 1);
        due.is("still waits", y.step(1), 0);
        due.is("it would wait", y.count(6), 3);
        y.input(0);
        due.is("runs", y.count(6), 0);
        due.is("takes and halts", y.step(2000), 2);
        due.is("halted", y.step(1), 0);
        due.illegal("step(0) when halted", () -> y.step(0));

        // Rows of different cost: 3 and 2 stay in room 5, and a row of 1 makes the oldest one go.
        BackSteps z = Words.machine(1, 0, Words.take(1), Words.set(2, 5), Words.set(3, 0), Words.set(3, 0),
                Words.put(1), Words.set(4, 1));
        z.input(6);
        z.step(2);
        due.counts("3 + 2", z, 2, 0, 5, 0, 3, 0);
        z.step(1);
        due.counts("2 + 1", z, 3, 1, 3, 1, 3, 0);
        z.step(1);
        due.counts("2 + 1 + 1", z, 4, 1, 4, 1, 4, 0);
        z.step(1);
        due.counts("1 + 1 + 2", z, 5, 2, 4, 2, 4, 0);
        z.step(1);
        due.counts("1 + 2 + 2", z, 6, 3, 5, 3, 4, 0);
        due.end();
    }
}
