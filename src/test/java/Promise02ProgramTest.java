/** Promise 2: words of the program, at any time, with nothing else changed. */
public final class Promise02ProgramTest {
    public static void main(String[] args) {
        Due due = new Due("Promise02ProgramTest");
        BackSteps x = new BackSteps(1020, 0);
        due.is("program(0, 5)", x.program(0, 5), 0);
        due.is("program(0, -6)", x.program(0, -6), 5);
        due.is("program(63, 1)", x.program(63, Integer.MIN_VALUE), 0);
        due.is("program(63, 2)", x.program(63, 2), Integer.MIN_VALUE);
        due.is("program(0, 0)", x.program(0, 0), -6);
        due.outside("program(64, 0)", () -> x.program(64, 0));
        due.outside("program(-1, 0)", () -> x.program(-1, 0));
        due.outside("program(MAX, 0)", () -> x.program(Integer.MAX_VALUE, 0));
        due.outside("program(MIN, 0)", () -> x.program(Integer.MIN_VALUE, 0));
        due.is("word 63 stays", x.program(63, 0), 2);

        BackSteps y = Words.machine(1020, 0, Words.set(1, 4), Words.store(1, 0, 2), Words.HALT);
        y.step(9);
        due.counts("halted", y, 3, 0, 6, 0, 4, 1);
        y.program(2, Words.set(1, 9));
        due.counts("halted, with another program", y, 3, 0, 6, 0, 4, 1);
        due.is("halted stays halted", y.step(1), 0);
        due.is("register stays", y.look(3, 1), 4);
        due.is("back(2)", y.back(2), 1);
        due.is("the new word is done", y.step(1), 1);
        due.is("register by the new word", y.look(3, 1), 9);
        due.is("back keeps the program", y.program(2, 0), Words.set(1, 9));
        due.end();
    }
}
