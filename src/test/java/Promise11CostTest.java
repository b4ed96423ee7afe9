/** Promise 11: the cost of a kept row. */
public final class Promise11CostTest {
    public static void main(String[] args) {
        Due due = new Due("Promise11CostTest");
        BackSteps x = Words.machine(1020, 0, Words.take(1), Words.set(1, 8), Words.take(1), Words.store(1, 0, 0),
                Words.store(1, 0, 0), Words.put(1), Words.set(2, 0), Words.jump(2, 9), Words.jump(1, 1),
                Words.jump(1, 2), Words.HALT, Words.fault());
        x.input(8);
        x.input(8);
        due.illegal("cost(0) at first", () -> x.cost(0));
        x.step(99);
        int[] want = {3, 1, 2, 2, 1, 2, 1, 1, 1, 2, 2};
        int all = 0;
        for (int time = 0; time < want.length; time++) {
            due.is("cost(" + time + ")", x.cost(time), want[time]);
            all += want[time];
        }
        due.counts("all", x, want.length, 0, all, 0, want.length + 1, 2);
        due.illegal("cost(11)", () -> x.cost(11));
        due.illegal("cost(-1)", () -> x.cost(-1));
        due.illegal("cost(MAX)", () -> x.cost(Integer.MAX_VALUE));
        due.illegal("cost(MIN)", () -> x.cost(Integer.MIN_VALUE));
        x.back(5);
        due.illegal("cost(5) behind going back", () -> x.cost(5));
        due.is("cost(4) behind going back", x.cost(4), 1);

        BackSteps y = Words.machine(0, 0, Words.set(1, 1), Words.set(1, 1), Words.set(1, 2), Words.set(1, 3));
        y.step(4);
        due.illegal("cost(1), gone for room", () -> y.cost(1));
        due.is("cost(2)", y.cost(2), 2);
        due.end();
    }
}
