/** Promise 8: the latest kept write. */
public final class Promise08WroteTest {
    public static void main(String[] args) {
        Due due = new Due("Promise08WroteTest");
        BackSteps x = Words.machine(1020, 0, Words.set(1, 4), Words.set(1, 4), Words.store(1, 0, 0),
                Words.store(1, 0, 0), Words.store(2, 0, 255), Words.load(0, 0, 0), Words.take(7), Words.put(3),
                Words.jump(1, 1), Words.three(12, 6, 5, 5), Words.HALT);
        x.input(0);
        due.is("wrote(1) at first", x.wrote(1), -1);
        x.step(11);
        due.is("wrote(1), the same number", x.wrote(1), 2);
        due.is("wrote(8), the same number", x.wrote(8), 4);
        due.is("wrote(263), 0 over 0", x.wrote(263), 5);
        due.is("wrote(0), by a load", x.wrote(0), 6);
        due.is("wrote(7), by an input of 0", x.wrote(7), 7);
        due.is("wrote(6), 0 by a comparison", x.wrote(6), 10);
        due.is("wrote(3), only put out", x.wrote(3), -1);
        due.is("wrote(5), only read", x.wrote(5), -1);
        due.is("wrote(2), only stored", x.wrote(2), -1);
        due.is("wrote(9)", x.wrote(9), -1);
        due.outside("wrote(264)", () -> x.wrote(264));
        due.outside("wrote(-1)", () -> x.wrote(-1));
        due.outside("wrote(MAX)", () -> x.wrote(Integer.MAX_VALUE));
        due.outside("wrote(MIN)", () -> x.wrote(Integer.MIN_VALUE));
        x.back(3);
        due.is("wrote(8) behind going back", x.wrote(8), 3);
        due.is("wrote(263) behind going back", x.wrote(263), -1);
        x.back(1);
        due.is("wrote(1) behind going back", x.wrote(1), 1);

        BackSteps y = Words.machine(0, 0, Words.set(1, 1), Words.set(2, 1), Words.set(3, 1));
        y.step(3);
        due.is("wrote(1), gone for room", y.wrote(1), -1);
        due.is("wrote(2), the oldest row", y.wrote(2), 2);
        due.end();
    }
}
