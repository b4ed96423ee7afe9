/** Promise 7: looking at kept times. */
public final class Promise07LookTest {
    public static void main(String[] args) {
        Due due = new Due("Promise07LookTest");
        BackSteps x = Words.machine(1020, 0, Words.take(7), Words.store(7, 0, 255), Words.put(7), Words.set(7, 3),
                Words.jump(7, 10));
        x.input(44);
        x.step(6);
        // At each time: register 7, memory 255, the place, inputs taken, outputs, the sum, whether halted.
        int[] seen = {7, 263, 264, 265, 266, 267, 268};
        int[][] want = {{0, 0, 0, 0, 0, 0, 0}, {44, 0, 1, 1, 0, 0, 0}, {44, 44, 2, 1, 0, 0, 0},
            {44, 44, 3, 1, 1, 44, 0}, {3, 44, 4, 1, 1, 44, 0}, {3, 44, 14, 1, 1, 44, 0}, {3, 44, 14, 1, 1, 44, 1}};
        for (int time = 0; time < want.length; time++) {
            for (int k = 0; k < seen.length; k++) {
                due.is("look(" + time + ", " + seen[k] + ")", x.look(time, seen[k]), want[time][k]);
            }
        }
        due.counts("looking changes nothing", x, 6, 0, 13, 0, 7, 1);
        due.outside("look(0, 269)", () -> x.look(0, 269));
        due.outside("look(0, -1)", () -> x.look(0, -1));
        due.outside("look(6, MAX)", () -> x.look(6, Integer.MAX_VALUE));
        due.outside("look(6, MIN)", () -> x.look(6, Integer.MIN_VALUE));
        due.illegal("look(7, 0)", () -> x.look(7, 0));
        due.illegal("look(-1, 0)", () -> x.look(-1, 0));
        due.illegal("look(7, 269): the time is told first", () -> x.look(7, 269));
        due.illegal("look(MIN, -1): the time is told first", () -> x.look(Integer.MIN_VALUE, -1));

        BackSteps y = Words.machine(0, 0, Words.set(1, 1), Words.set(1, 2), Words.set(1, 3), Words.fault());
        y.step(4);
        due.illegal("look(1, 1), gone for room", () -> y.look(1, 1));
        due.is("look(2, 1)", y.look(2, 1), 2);
        due.is("look(3, 1)", y.look(3, 1), 3);
        due.is("look(3, 268)", y.look(3, 268), 0);
        due.is("look(4, 268)", y.look(4, 268), 2);
        due.end();
    }
}
