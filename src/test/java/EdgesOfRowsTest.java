/** Terms, the edges of rows, times and inputs: each method tests one sentence, that it quotes. */
public final class EdgesOfRowsTest {
    private static final Due due = new Due("EdgesOfRowsTest");

    /** The cost of one step of a word at a place, with register 1 so and an input 7 given. */
    private static void costs(String what, int place, int word, int register, int want) {
        BackSteps x = Words.standingAt(place);
        x.poke(1, register);
        x.input(7);
        x.program(place, word);
        due.is(what + ": step(1)", x.step(1), 1);
        due.is(what + ": cost(1)", x.cost(1), want);
        due.is(what + ": count(2)", x.count(2), want);
    }

    private static void oneAtLeast() {
        due.says("Terms", "The step from time k to k + 1 has a ROW, that COSTS 1");
        costs("a step that changes the place alone", 5, Words.jump(1, 9), 0, 1);
        costs("a step from place 63 to 0", 63, Words.jump(1, 9), 0, 1);
    }

    private static void anotherNumber() {
        due.says("Terms", "when a register or memory word has another number than before");
        costs("another number", 5, Words.set(1, 4), 3, 2);
        costs("the same number", 5, Words.set(1, 4), 4, 1);
        costs("0 over 0", 5, Words.set(2, 0), 0, 1);
        costs("stored, another", 5, Words.store(1, 0, 255), 3, 2);
        costs("stored 0 over 0", 5, Words.store(1, 0, 255), 0, 1);
        costs("loaded, another", 5, Words.load(1, 0, 0), 3, 2);
        costs("loaded 0 over 0", 5, Words.load(1, 0, 0), 0, 1);
        costs("nothing added to itself", 5, Words.three(2, 1, 1, 0), -1, 1);
        costs("a register and its own doubling", 5, Words.three(2, 1, 1, 1), Integer.MIN_VALUE, 2);
        costs("another number at place 63", 63, Words.set(1, 4), 3, 2);
    }

    private static void anotherPlace() {
        due.says("Terms", "when the place is not (place + 1) modulo 64");
        costs("a jump to the place itself", 5, Words.jump(1, 0), 1, 2);
        costs("a jump away", 5, Words.jump(1, 2), 1, 2);
        costs("a jump to the next place", 5, Words.jump(1, 1), 1, 1);
        costs("a jump round to the next place", 5, Words.jump(1, 65), 1, 1);
        costs("a jump back round to the next place", 5, Words.jump(1, -63), 1, 1);
        costs("a jump from 63 to 0", 63, Words.jump(1, 1), 1, 1);
        costs("a jump from 63 back to 0", 63, Words.jump(1, -63), 1, 1);
        costs("a jump from 63 to 1", 63, Words.jump(1, 2), 1, 2);
        costs("no jump, as the register is 0", 5, Words.jump(1, 9), 0, 1);
        costs("halted", 5, Words.HALT, 0, 2);
        costs("halted at 63", 63, Words.HALT, 0, 2);
        costs("a fault", 5, Words.fault(), 0, 2);
    }

    private static void inputTaken() {
        due.says("Terms", "when an input was taken");
        costs("taken, another number", 5, Words.take(1), 3, 3);
        costs("taken, the same number", 5, Words.take(1), 7, 2);
        costs("taken at place 63", 63, Words.take(1), 3, 3);
    }

    private static void outputMore() {
        due.says("Terms", "when outputs were one more");
        costs("put out", 5, Words.put(1), 3, 2);
        costs("put out 0, with no other sum", 5, Words.put(1), 0, 2);
        costs("put out at place 63", 63, Words.put(1), 3, 2);
    }

    private static void justFull() {
        due.says("Terms", "KEPT are the rows of the latest steps, as many as their costs have ROOM");
        BackSteps x = Words.filled(0, 0, Words.set(1, 0));
        x.step(4);
        due.counts("4 in room 4", x, 4, 0, 4, 0, 5, 0);
        x.step(1);
        due.counts("5 in room 4", x, 5, 1, 4, 1, 5, 0);
        BackSteps y = Words.filled(1020, 0, Words.set(1, 0));
        y.step(1024);
        due.counts("1024 in room 1024", y, 1024, 0, 1024, 0, 1025, 0);
        due.is("time 0 is kept", y.look(0, 264), 0);
        y.step(1);
        due.counts("1025 in room 1024", y, 1025, 1, 1024, 1, 1025, 0);
        due.illegal("time 0 is not", () -> y.look(0, 264));
        due.is("time 1 is", y.look(1, 264), 1);
    }

    /** Rows of 1 alone, then a row of 3: it needs more than one of the oldest to go. */
    private static void oldestGo() {
        due.says("Terms", "when a step's row comes, the oldest ones go until it has.");
        BackSteps x = Words.filled(0, 0, Words.set(1, 0));
        x.input(9);
        x.step(4);
        x.program(4, Words.take(2));
        x.step(1);
        due.counts("1 1 1 1, then 3", x, 5, 3, 4, 3, 3, 0);
        due.is("the oldest row left", x.cost(3), 1);
        due.is("the row that came", x.cost(4), 3);

        BackSteps y = Words.filled(0, 0, Words.set(1, 0));
        y.program(0, Words.take(2));
        y.program(2, Words.set(1, 5));
        y.input(9);
        y.step(2);
        due.counts("3 1", y, 2, 0, 4, 0, 3, 0);
        y.step(1);
        due.counts("3 1, then 2: only one goes", y, 3, 1, 3, 1, 3, 0);

        BackSteps z = Words.filled(0, 0, Words.take(2));
        z.input(9);
        z.input(8);
        z.step(1);
        due.counts("3", z, 1, 0, 3, 0, 2, 0);
        z.step(1);
        due.counts("3, then 3: all older ones go", z, 2, 1, 3, 1, 2, 3);
    }

    private static void roomIsFreeAgain() {
        due.says("Terms", "when a step's row comes, the oldest ones go until it has.");
        BackSteps x = Words.filled(0, 0, Words.set(1, 0));
        x.step(4);
        x.back(2);
        due.counts("going back makes room", x, 2, 0, 2, 0, 3, 0);
        x.step(2);
        due.counts("so none needs to go", x, 4, 0, 4, 0, 5, 0);
        x.poke(0, 1);
        x.step(4);
        due.counts("poke makes room too", x, 8, 4, 4, 4, 5, 0);
    }

    private static void keptTimes() {
        due.says("Terms", "A time is kept when all rows from it to now are.");
        BackSteps x = Words.filled(0, 0, Words.set(1, 0));
        due.is("now, without any row", x.look(0, 264), 0);
        due.illegal("the time behind it", () -> x.look(1, 264));
        due.illegal("the time before it", () -> x.look(-1, 264));
        x.step(10);
        due.illegal("the time before the oldest", () -> x.look(5, 264));
        due.is("the oldest", x.look(6, 264), 6);
        due.is("now", x.look(10, 264), 10);
        due.illegal("the time behind now", () -> x.look(11, 264));
        x.back(6);
        due.is("the oldest is now", x.look(6, 264), 6);
        due.illegal("what was now", () -> x.look(10, 264));
        due.illegal("the one behind the oldest", () -> x.look(7, 264));
        due.illegal("the one before it does not come again", () -> x.look(5, 264));
    }

    private static void timeBack() {
        due.says("Terms", "TIME is the number of steps since the beginning of all (going back makes it less).");
        BackSteps x = Words.filled(1020, 0, Words.set(1, 0));
        due.is("at first", x.count(0), 0);
        x.step(2000);
        due.is("behind 2000 steps", x.count(0), 2000);
        x.poke(0, 5);
        due.is("poke is no step", x.count(0), 2000);
        x.step(3);
        x.back(2001);
        due.is("behind going back", x.count(0), 2001);
        x.step(1);
        due.is("and on", x.count(0), 2002);
    }

    private static void inputsStay() {
        due.says("Terms", "INPUTS stay where they are when it goes back: they are taken again.");
        BackSteps x = Words.machine(1020, 0, Words.take(1), Words.take(2), Words.take(3), Words.HALT);
        x.input(11);
        x.input(12);
        due.is("step(9)", x.step(9), 2);
        due.is("it waits", x.count(6), 3);
        due.is("back(1)", x.back(1), 1);
        due.is("it need not wait", x.count(6), 0);
        due.is("given", x.count(4), 2);
        due.is("taken", x.look(1, 265), 1);
        due.is("a new one stands behind the old ones", x.input(13), 2);
        due.is("step(9) again", x.step(9), 3);
        due.is("the second, again", x.look(4, 2), 12);
        due.is("the third", x.look(4, 3), 13);
        due.is("back(0)", x.back(0), 4);
        due.is("all three are to be taken", x.input(14), 4);
        due.is("step(1)", x.step(1), 1);
        due.is("the first, again", x.look(1, 1), 11);
    }

    private static void firstTold() {
        due.says("Terms", "Of several exceptions the first one told is thrown.");
        BackSteps x = Words.filled(0, 0, Words.set(1, 0));
        x.step(10);
        int[] times = {5, 11, -1, Integer.MIN_VALUE, Integer.MAX_VALUE};
        int[] numbers = {-1, 269, Integer.MIN_VALUE, Integer.MAX_VALUE};
        for (int time : times) {
            for (int i : numbers) {
                due.illegal("look(" + time + ", " + i + ")", () -> x.look(time, i));
                due.illegal("when(" + time + ", " + i + ", 0)", () -> x.when(time, i, 0));
            }
        }
        for (int i : numbers) {
            due.outside("look(6, " + i + ")", () -> x.look(6, i));
            due.outside("when(6, " + i + ", 0)", () -> x.when(6, i, 0));
        }
    }

    public static void main(String[] args) {
        oneAtLeast();
        anotherNumber();
        anotherPlace();
        inputTaken();
        outputMore();
        justFull();
        oldestGo();
        roomIsFreeAgain();
        keptTimes();
        timeBack();
        inputsStay();
        firstTold();
        due.end();
    }
}
