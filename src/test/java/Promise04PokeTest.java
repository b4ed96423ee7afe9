/** Promise 4: numbers by hand, behind which nothing earlier is kept. */
public final class Promise04PokeTest {
    public static void main(String[] args) {
        Due due = new Due("Promise04PokeTest");
        BackSteps x = Words.machine(1020, 1, Words.set(1, 4), Words.set(2, 5), Words.set(3, 6), Words.HALT);
        due.is("poke(0, 8)", x.poke(0, 8), 0);
        due.is("poke(0, 9)", x.poke(0, 9), 8);
        due.is("poke(263, -1)", x.poke(263, -1), 0);
        due.is("poke(263, 2)", x.poke(263, 2), -1);
        due.counts("no step yet", x, 0, 0, 0, 0, 1, 0);
        due.is("memory 255", x.look(0, 263), 2);
        due.outside("poke(264, 0)", () -> x.poke(264, 0));
        due.outside("poke(-1, 0)", () -> x.poke(-1, 0));
        due.outside("poke(MAX, 0)", () -> x.poke(Integer.MAX_VALUE, 0));
        due.outside("poke(MIN, 0)", () -> x.poke(Integer.MIN_VALUE, 0));

        x.step(3);
        due.counts("three steps", x, 3, 0, 6, 0, 2, 0);
        due.outside("poke(264, 0) late", () -> x.poke(264, 0));
        due.counts("a refused poke takes no row", x, 3, 0, 6, 0, 2, 0);
        due.is("poke(1, 4), the same number", x.poke(1, 4), 4);
        due.counts("all rows went", x, 3, 3, 0, 3, 0, 0);
        due.illegal("look(2, 0)", () -> x.look(2, 0));
        due.illegal("back(2)", () -> x.back(2));
        due.illegal("cost(2)", () -> x.cost(2));
        due.is("wrote(1)", x.wrote(1), -1);
        due.is("when(3, 1, 4)", x.when(3, 1, 4), 3);
        due.is("when(3, 1, 0)", x.when(3, 1, 0), -1);
        due.is("replay()", x.replay(), -1);
        due.is("step(5)", x.step(5), 1);
        due.counts("halted", x, 4, 3, 2, 3, 1, 1);
        due.is("poke when halted", x.poke(3, 1), 6);
        due.counts("halted stays", x, 4, 4, 0, 4, 1, 1);
        due.is("place stays", x.look(4, 264), 3);
        due.end();
    }
}
