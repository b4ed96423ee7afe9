/** Promise 9: the latest kept time at which a number was so. */
public final class Promise09WhenTest {
    public static void main(String[] args) {
        Due due = new Due("Promise09WhenTest");
        BackSteps x = Words.machine(1020, 0, Words.set(1, 4), Words.set(1, 5), Words.store(1, 0, 255),
                Words.set(1, 4), Words.set(2, 1), Words.set(1, 6));
        x.step(6);
        due.is("when(6, 1, 6)", x.when(6, 1, 6), 6);
        due.is("when(5, 1, 6)", x.when(5, 1, 6), -1);
        due.is("when(6, 1, 4)", x.when(6, 1, 4), 5);
        due.is("when(4, 1, 4)", x.when(4, 1, 4), 4);
        due.is("when(3, 1, 4)", x.when(3, 1, 4), 1);
        due.is("when(6, 1, 5)", x.when(6, 1, 5), 3);
        due.is("when(6, 1, 0), the oldest time", x.when(6, 1, 0), 0);
        due.is("when(0, 1, 0)", x.when(0, 1, 0), 0);
        due.is("when(0, 1, 4)", x.when(0, 1, 4), -1);
        due.is("when(6, 263, 0)", x.when(6, 263, 0), 2);
        due.is("when(6, 263, 5)", x.when(6, 263, 5), 6);
        due.is("when(6, 0, 0), never written", x.when(6, 0, 0), 6);
        due.is("when(6, 0, 7)", x.when(6, 0, 7), -1);
        due.outside("when(6, 264, 0)", () -> x.when(6, 264, 0));
        due.outside("when(6, -1, 0)", () -> x.when(6, -1, 0));
        due.outside("when(0, MIN, 0)", () -> x.when(0, Integer.MIN_VALUE, 0));
        due.illegal("when(7, 0, 0)", () -> x.when(7, 0, 0));
        due.illegal("when(-1, 0, 0)", () -> x.when(-1, 0, 0));
        due.illegal("when(7, 264, 0): the time is told first", () -> x.when(7, 264, 0));

        BackSteps y = Words.machine(0, 0, Words.set(1, 1), Words.set(1, 2), Words.set(1, 3), Words.set(1, 4));
        y.step(4);
        due.is("when(4, 1, 2), the oldest time", y.when(4, 1, 2), 2);
        due.is("when(4, 1, 1), gone for room", y.when(4, 1, 1), -1);
        due.illegal("when(1, 1, 1), gone for room", () -> y.when(1, 1, 1));
        due.end();
    }
}
