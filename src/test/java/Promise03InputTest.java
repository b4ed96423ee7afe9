/** Promise 3: inputs, those that were not taken, and the limit of 200. */
public final class Promise03InputTest {
    public static void main(String[] args) {
        Due due = new Due("Promise03InputTest");
        BackSteps x = Words.machine(1020, 0, Words.take(1), Words.take(2), Words.take(3));
        due.is("input(11)", x.input(11), 1);
        due.is("input(12)", x.input(12), 2);
        due.is("step(1)", x.step(1), 1);
        due.is("input(13)", x.input(13), 2);
        due.is("step(2)", x.step(2), 2);
        due.is("first", x.look(3, 1), 11);
        due.is("second", x.look(3, 2), 12);
        due.is("third", x.look(3, 3), 13);
        due.is("back(1)", x.back(1), 2);
        due.is("given stay", x.count(4), 3);
        due.is("input(14) behind going back", x.input(14), 3);
        due.is("taken again", x.step(2), 2);
        due.is("second again", x.look(3, 2), 12);
        due.is("third again", x.look(3, 3), 13);

        BackSteps y = Words.machine(1020, 0, Words.take(1), Words.set(7, 1), Words.jump(7, -2));
        for (int i = 1; i <= 200; i++) {
            due.is("input " + i, y.input(i * 3), i);
        }
        due.fails("input 201", UnsupportedOperationException.class, () -> y.input(0));
        due.is("given", y.count(4), 200);
        due.is("takes all", y.step(2000), 600);
        due.is("last taken", y.look(600, 1), 600);
        due.is("taken", y.look(600, 265), 200);
        due.is("waits", y.count(6), 3);
        due.fails("input 201 when all are taken", UnsupportedOperationException.class, () -> y.input(0));
        due.is("back", y.back(590), 10);
        due.fails("input 201 behind going back", UnsupportedOperationException.class, () -> y.input(0));
        due.end();
    }
}
