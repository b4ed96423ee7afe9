/** Promise 6: going back to a kept time. */
public final class Promise06BackTest {
    private static final int[] PROGRAM = {Words.take(1), Words.store(1, 0, 9), Words.put(1), Words.three(2, 1, 1, 1),
        Words.jump(1, 2), Words.HALT, Words.fault()};

    public static void main(String[] args) {
        Due due = new Due("Promise06BackTest");
        BackSteps x = Words.machine(1020, 2, PROGRAM);
        x.input(7);
        x.input(8);
        due.is("step(50)", x.step(50), 6);
        due.counts("a fault", x, 6, 0, 13, 0, 3, 2);
        due.illegal("back(7)", () -> x.back(7));
        due.illegal("back(-1)", () -> x.back(-1));
        due.illegal("back(MAX)", () -> x.back(Integer.MAX_VALUE));
        due.illegal("back(MIN)", () -> x.back(Integer.MIN_VALUE));
        due.is("back(6)", x.back(6), 0);
        due.counts("to now changes nothing", x, 6, 0, 13, 0, 3, 2);
        due.is("back(5)", x.back(5), 1);
        due.counts("before the fault", x, 5, 0, 11, 0, 2, 0);
        due.is("not halted", x.look(5, 268), 0);
        due.is("place 6", x.look(5, 264), 6);
        due.is("back(2)", x.back(2), 3);
        due.counts("before the output", x, 2, 0, 5, 0, 1, 0);
        due.is("register", x.look(2, 1), 7);
        due.is("memory", x.look(2, 17), 7);
        due.is("outputs", x.look(2, 266), 0);
        due.is("sum", x.look(2, 267), 0);
        due.illegal("look(3, 0)", () -> x.look(3, 0));
        due.illegal("cost(2)", () -> x.cost(2));
        due.is("back(0)", x.back(0), 2);
        for (int i = 0; i <= 268; i++) {
            due.is("look(0, " + i + ")", x.look(0, i), 0);
        }
        due.is("inputs given stay", x.count(4), 2);
        x.program(1, Words.take(2));
        due.is("on again", x.step(2), 2);
        due.is("first input again", x.look(2, 1), 7);
        due.is("second input, by the program of now", x.look(2, 2), 8);

        BackSteps y = Words.machine(0, 0, Words.set(1, 1), Words.set(2, 1), Words.set(3, 1));
        y.step(3);
        due.counts("room for two", y, 3, 1, 4, 1, 3, 0);
        due.illegal("back(0)", () -> y.back(0));
        due.counts("a refused one changes nothing", y, 3, 1, 4, 1, 3, 0);
        due.is("back(1)", y.back(1), 2);
        due.counts("the oldest time stays", y, 1, 1, 0, 1, 1, 0);
        due.illegal("back(0) again", () -> y.back(0));
        due.end();
    }
}
