/** Promises 7 to 12, what the object is asked: each method tests one sentence, that it quotes. */
public final class EdgesOfAskingTest {
    private static final Due due = new Due("EdgesOfAskingTest");
    private static final int MIN = Integer.MIN_VALUE;
    private static final int MAX = Integer.MAX_VALUE;
    private static final int[] NO_PLACES = {264, -1, 265, 268, 269, -8, MIN, MAX};

    /** Room 4, at time 10, and register 1 has been the time: the rows from 8 on, of 2 each, are kept. */
    private static BackSteps counting() {
        BackSteps x = Words.filled(0, 0, Words.three(2, 1, 1, 2));
        x.poke(2, 1);
        x.step(10);
        return x;
    }

    private static void lookPlaces() {
        due.says("Promise 7", "At a kept time register i (i 0 .. 7), memory word i - 8 (8 .. 263)");
        int[] places = {0, 1, 6, 7, 8, 9, 262, 263};
        for (int i : places) {
            int word = i < 8 ? Words.set(i, 5) : Words.store(7, 0, i - 8);
            BackSteps x = Words.machine(1020, 0, word);
            if (i >= 8) {
                x.poke(7, 5);
            }
            x.step(1);
            for (int other : places) {
                int before = i >= 8 && other == 7 ? 5 : 0;
                due.is("only " + i + " is written: look(0, " + other + ")", x.look(0, other), before);
                due.is("only " + i + " is written: look(1, " + other + ")", x.look(1, other),
                        other == i ? 5 : before);
            }
        }
    }

    private static void lookRests() {
        due.says("Promise 7", "the place (264), inputs taken (265), outputs (266), their sum (267)");
        BackSteps x = Words.machine(1020, 0, Words.take(1), Words.put(1), Words.put(1), Words.jump(1, -4));
        x.input(2);
        x.input(3);
        due.is("step(4)", x.step(4), 4);
        int[][] want = {{0, 0, 0, 0}, {1, 1, 0, 0}, {2, 1, 1, 2}, {3, 1, 2, 64}, {63, 1, 2, 64}};
        for (int time = 0; time < want.length; time++) {
            for (int k = 0; k < 4; k++) {
                due.is("look(" + time + ", " + (264 + k) + ")", x.look(time, 264 + k), want[time][k]);
            }
        }
    }

    private static void lookHalted() {
        due.says("Promise 7", "whether it was halted (268; 2 with a fault)");
        BackSteps x = Words.machine(1020, 0, Words.set(1, 1), Words.HALT);
        x.step(9);
        due.is("look(0, 268)", x.look(0, 268), 0);
        due.is("look(1, 268)", x.look(1, 268), 0);
        due.is("look(2, 268)", x.look(2, 268), 1);
        x.back(1);
        x.program(1, Words.fault());
        due.is("a fault that is still to come", x.look(1, 268), 0);
        x.step(9);
        due.is("before the fault", x.look(1, 268), 0);
        due.is("with a fault", x.look(2, 268), 2);
        x.poke(1, 0);
        due.is("by hand it stays", x.look(2, 268), 2);
        BackSteps y = Words.machine(1020, 0, Words.take(1));
        due.is("it waits: it is not halted", y.look(0, 268), 0);
    }

    private static void lookTimes() {
        due.says("Promise 7", "IllegalArgumentException, when the time is not kept");
        BackSteps x = counting();
        String before = Seen.of(x);
        due.is("the oldest", x.look(8, 1), 8);
        due.is("between", x.look(9, 1), 9);
        due.is("now", x.look(10, 1), 10);
        int[] notKept = {7, 0, -1, 11, MIN, MAX};
        for (int time : notKept) {
            due.illegal("look(" + time + ", 1)", () -> x.look(time, 1));
        }
        due.same("looking changes nothing", Seen.of(x), before);
    }

    private static void lookAnother() {
        due.says("Promise 7", "IndexOutOfBoundsException, for another i.");
        BackSteps x = counting();
        int[] others = {-1, 269, 270, -8, MIN, MAX};
        for (int time = 8; time <= 10; time++) {
            int at = time;
            for (int i : others) {
                due.outside("look(" + at + ", " + i + ")", () -> x.look(at, i));
            }
            due.is("look(" + at + ", 0)", x.look(at, 0), 0);
            due.is("look(" + at + ", 268)", x.look(at, 268), 0);
        }
    }

    private static void wroteLatest() {
        due.says("Promise 8", "The time behind the latest kept step that wrote register i, or memory word i - 8");
        BackSteps x = Words.machine(1020, 0, Words.set(0, 3), Words.set(7, 3), Words.store(0, 1, 0),
                Words.store(0, 1, 255), Words.set(0, 4));
        x.step(5);
        due.is("register 0", x.wrote(0), 5);
        due.is("register 7", x.wrote(7), 2);
        due.is("memory word 0", x.wrote(8), 3);
        due.is("memory word 255", x.wrote(263), 4);
        x.back(4);
        due.is("register 0, one step back", x.wrote(0), 1);
        due.is("memory word 255, just written", x.wrote(263), 4);
    }

    private static void wroteWhatever() {
        due.says("Promise 8", "whatever number it had before");
        BackSteps x = Words.machine(1020, 0, Words.set(1, 0), Words.store(1, 1, 0), Words.load(2, 1, 9),
                Words.take(3), Words.three(12, 4, 1, 1), Words.three(11, 5, 1, 1));
        x.input(0);
        x.step(6);
        int[][] pairs = {{1, 1}, {8, 2}, {2, 3}, {3, 4}, {4, 5}, {5, 6}};
        for (int[] pair : pairs) {
            due.is("0 over 0, wrote(" + pair[0] + ")", x.wrote(pair[0]), pair[1]);
        }
    }

    private static void wroteNone() {
        due.says("Promise 8", "NONE when none of these did.");
        BackSteps x = Words.machine(0, 0, Words.set(1, 1), Words.set(2, 1), Words.set(3, 1), Words.jump(1, 0));
        due.is("no step yet", x.wrote(1), -1);
        x.step(2);
        due.is("the oldest kept row", x.wrote(1), 1);
        x.step(1);
        due.is("its row went for room", x.wrote(1), -1);
        due.is("the oldest kept row now", x.wrote(2), 2);
        due.is("never written", x.wrote(0), -1);
        x.step(2);
        due.is("only jumps are kept", x.wrote(3), -1);
        due.is("jumps write nothing", x.wrote(0), -1);
        BackSteps y = Words.machine(1020, 0, Words.set(1, 1), Words.put(1), Words.HALT);
        y.step(3);
        due.is("outputs and halting write nothing", y.wrote(0), -1);
        y.back(0);
        due.is("its row went by going back", y.wrote(1), -1);
        y.step(1);
        y.poke(2, 5);
        due.is("its row went by hand", y.wrote(1), -1);
        due.is("by hand is no step", y.wrote(2), -1);
    }

    private static void wroteNoPlace() {
        due.says("Promise 8", "IndexOutOfBoundsException, when there is none.");
        BackSteps x = counting();
        for (int i : NO_PLACES) {
            due.outside("wrote(" + i + ")", () -> x.wrote(i));
        }
        due.is("wrote(0)", x.wrote(0), -1);
        due.is("wrote(263)", x.wrote(263), -1);
    }

    private static void whenLatest() {
        due.says("Promise 9",
                "The latest kept time, up to a kept one, at which register i, or memory word i - 8, was v");
        BackSteps x = Words.machine(1020, 0, Words.set(1, 5), Words.set(1, 6), Words.set(1, 5), Words.set(2, 9),
                Words.store(1, 0, 255), Words.set(1, -9), Words.set(7, 1));
        x.step(7);
        due.is("at that time itself", x.when(4, 1, 5), 4);
        due.is("behind the step that wrote it", x.when(3, 1, 5), 3);
        due.is("one before: the earlier one", x.when(2, 1, 5), 1);
        due.is("the time before it was another", x.when(7, 1, 5), 5);
        due.is("6 was at time 2 alone", x.when(7, 1, 6), 2);
        due.is("up to time 1 it was not 6", x.when(1, 1, 6), -1);
        due.is("0 at the oldest time", x.when(7, 1, 0), 0);
        due.is("0 up to the oldest time", x.when(0, 1, 0), 0);
        due.is("memory word 255, 5 now", x.when(7, 263, 5), 7);
        due.is("memory word 255, 0 before", x.when(7, 263, 0), 4);
        due.is("register 7, 1 now", x.when(7, 7, 1), 7);
        due.is("register 7, 1 one before", x.when(6, 7, 1), -1);
        due.is("memory word 0, never written", x.when(3, 8, 0), 3);
    }

    private static void whenWithout() {
        due.says("Promise 9", "NONE without.");
        BackSteps x = counting();
        due.is("the oldest time", x.when(10, 1, 8), 8);
        due.is("one before: it went", x.when(10, 1, 7), -1);
        due.is("behind the time", x.when(9, 1, 10), -1);
        due.is("now", x.when(10, 1, 10), 10);
        due.is("never", x.when(10, 1, -1), -1);
        x.back(8);
        due.is("nothing but now", x.when(8, 1, 8), 8);
        due.is("nothing but now, without", x.when(8, 1, 9), -1);
        x.poke(1, 20);
        due.is("by hand", x.when(8, 1, 20), 8);
        due.is("before it by hand", x.when(8, 1, 8), -1);
    }

    private static void whenTimes() {
        due.says("Promise 9", "IllegalArgumentException, when the time is not kept");
        BackSteps x = counting();
        int[] notKept = {7, 0, -1, 11, MIN, MAX};
        for (int time : notKept) {
            due.illegal("when(" + time + ", 1, 8)", () -> x.when(time, 1, 8));
        }
    }

    private static void whenNoPlace() {
        due.says("Promise 9", "IndexOutOfBoundsException, when there is no such register or word.");
        BackSteps x = counting();
        for (int i : NO_PLACES) {
            due.outside("when(8, " + i + ", 0)", () -> x.when(8, i, 0));
            due.outside("when(10, " + i + ", 0)", () -> x.when(10, i, 0));
        }
        due.is("when(10, 0, 0)", x.when(10, 0, 0), 10);
        due.is("when(8, 263, 0)", x.when(8, 263, 0), 8);
    }

    private static void replayNothing() {
        due.says("Promise 10", "(or nothing but now is kept)");
        BackSteps x = new BackSteps(0, 0);
        due.is("new", x.replay(), -1);
        BackSteps y = counting();
        y.back(8);
        y.program(8, Words.fault());
        due.is("back at the oldest time", y.replay(), -1);
        BackSteps z = counting();
        z.poke(1, 99);
        z.program(9, Words.fault());
        due.is("behind poke", z.replay(), -1);
    }

    private static void replayAsItWas() {
        due.says("Promise 10", "NONE, when everything is as it was at each time up to now");
        BackSteps x = counting();
        due.is("as it was", x.replay(), -1);
        x.program(7, Words.fault());
        due.is("a word of a step that is not kept", x.replay(), -1);
        x.program(10, Words.fault());
        due.is("the word of the step to come", x.replay(), -1);
        x.program(9, Words.three(2, 1, 2, 1));
        due.is("another word that does the same", x.replay(), -1);
        BackSteps y = Words.machine(1020, 0, Words.HALT);
        y.step(1);
        due.is("halted", y.replay(), -1);
        y.program(0, Words.HALT | 5);
        due.is("halted by another word", y.replay(), -1);
        BackSteps z = Words.machine(1020, 0, Words.fault());
        z.step(1);
        due.is("a fault", z.replay(), -1);
        z.program(0, Words.word(15, 0, 0, 0, 0));
        due.is("a fault by another word", z.replay(), -1);
    }

    /** What replay answers when the word of a step to time 2 is another one. */
    private static void other(String what, int word, int other, int want) {
        BackSteps x = Words.machine(1020, 0, Words.take(1), word, Words.set(6, 1));
        x.input(1);
        x.input(1);
        x.step(3);
        x.program(1, other);
        due.is(what, x.replay(), want);
    }

    private static void replayEverything() {
        due.says("Promise 10", "everything is as it was at each time up to now");
        int nothing = Words.set(2, 0);
        other("a register", nothing, Words.set(2, 1), 2);
        other("no register", Words.set(2, 1), Words.put(2), 2);
        other("a register besides", Words.set(2, 0), Words.set(3, 1), 2);
        other("the first memory word", nothing, Words.store(1, 0, 0), 2);
        other("the last memory word", nothing, Words.store(1, 0, 255), 2);
        other("no memory word", Words.store(1, 0, 255), nothing, 2);
        other("the place", nothing, Words.jump(1, 2), 2);
        other("an input more", nothing, Words.take(1), 2);
        other("an input less", Words.take(1), nothing, 2);
        other("an output more, with no other sum", nothing, Words.put(2), 2);
        other("an output less, with no other sum", Words.put(2), nothing, 2);
        other("the sum alone", Words.put(2), Words.put(1), 2);
        other("halted", Words.jump(1, 0), Words.HALT, 2);
        other("with a fault", Words.HALT, Words.fault(), 2);
        other("halted, with no fault", Words.fault(), Words.HALT, 2);
        other("not halted", Words.HALT, Words.jump(1, 0), 2);
        other("all as it was", nothing, Words.jump(1, 1), -1);
    }

    private static void replayFirst() {
        due.says("Promise 10", "else the first time at which something is not");
        BackSteps x = counting();
        x.program(9, Words.set(1, 3));
        due.is("the last step", x.replay(), 10);
        x.program(8, Words.set(1, 3));
        due.is("the oldest step, and the first of both", x.replay(), 9);
        x.program(8, Words.set(1, 9));
        due.is("only the last is another again", x.replay(), 10);
        BackSteps y = Words.machine(1020, 0, Words.set(1, 4), Words.set(1, 5), Words.set(1, 6));
        y.step(3);
        y.program(0, Words.set(1, 7));
        due.is("another at time 1, though not at time 3", y.replay(), 1);
    }

    private static void replayNotReached() {
        due.says("Promise 10", "or could not be reached");
        BackSteps x = counting();
        x.program(9, Words.take(1));
        due.is("it would wait", x.replay(), 10);
        x.input(10);
        due.is("an input that was not taken is none", x.replay(), 10);
        x.program(9, Words.HALT);
        due.is("halted", x.replay(), 10);
        x.program(8, Words.fault());
        due.is("halted before", x.replay(), 9);
        BackSteps y = Words.machine(1020, 0, Words.take(1), Words.take(2), Words.set(3, 1));
        y.input(0);
        y.input(0);
        y.step(3);
        due.is("the inputs that were taken", y.replay(), -1);
        y.program(2, Words.take(3));
        due.is("no third was taken", y.replay(), 3);
    }

    private static void replayChangesNothing() {
        due.says("Promise 10", "Nothing changes.");
        BackSteps x = Words.machine(1020, 3, Words.take(1), Words.store(1, 0, 255), Words.put(1), Words.HALT);
        x.input(6);
        x.input(7);
        x.step(3);
        String before = Seen.of(x);
        x.program(0, Words.take(3));
        x.program(1, Words.take(2));
        due.is("replay() by another program", x.replay(), 1);
        x.program(0, Words.take(1));
        due.is("replay() by another word", x.replay(), 2);
        x.program(1, Words.store(1, 0, 255));
        due.same("as before", Seen.of(x), before);
        due.is("it goes on as it would", x.step(5), 1);
        due.is("back(0)", x.back(0), 4);
        due.is("the inputs are taken again", x.step(5), 4);
        due.is("the first input", x.look(4, 1), 6);
    }

    private static void costRows() {
        due.says("Promise 11", "The cost of the kept row of the step from a time on.");
        BackSteps x = Words.machine(1, 0, Words.set(1, 1), Words.set(1, 1), Words.set(1, 2), Words.set(1, 3));
        x.input(3);
        x.step(4);
        due.is("the oldest row", x.cost(1), 1);
        due.is("between", x.cost(2), 2);
        due.is("the latest row", x.cost(3), 2);
        x.back(2);
        due.is("the latest row behind going back", x.cost(1), 1);
        x.program(2, Words.take(1));
        x.step(1);
        due.is("another row at its time", x.cost(2), 3);
    }

    private static void costNone() {
        due.says("Promise 11", "IllegalArgumentException, when there is none.");
        BackSteps x = Words.filled(0, 0, Words.three(2, 1, 1, 2));
        due.illegal("no step yet", () -> x.cost(0));
        x.poke(2, 1);
        x.step(10);
        due.is("the oldest row", x.cost(8), 2);
        due.is("the latest row", x.cost(9), 2);
        int[] none = {7, 0, 10, 11, -1, MIN, MAX};
        for (int time : none) {
            due.illegal("cost(" + time + ")", () -> x.cost(time));
        }
        x.back(9);
        due.illegal("the row that went by going back", () -> x.cost(9));
        x.poke(1, 1);
        due.illegal("the row that went by hand", () -> x.cost(8));
    }

    private static void countKept() {
        due.says("Promise 12", "The time (0), the oldest kept time (1), cost of all kept rows (2)");
        BackSteps x = Words.filled(0, 0, Words.set(1, 0));
        // Behind a row of 3 and rows of 1 the room of 4 holds: nothing, 3, 3 1, 1 1, 1 1 1, 1 1 1 1, 1 1 1 1.
        x.program(0, Words.take(2));
        x.input(5);
        int[][] want = {{0, 0}, {0, 3}, {0, 4}, {1, 2}, {1, 3}, {1, 4}, {2, 4}};
        for (int time = 0; time < want.length; time++) {
            due.is("the time", x.count(0), time);
            due.is("the oldest at " + time, x.count(1), want[time][0]);
            due.is("the cost of all at " + time, x.count(2), want[time][1]);
            x.step(1);
        }
        x.back(3);
        due.is("back at the oldest: the time", x.count(0), 3);
        due.is("back at the oldest: it", x.count(1), 3);
        due.is("back at the oldest: no cost", x.count(2), 0);
    }

    private static void countGiven() {
        due.says("Promise 12", "inputs given (4)");
        BackSteps x = Words.filled(1020, 0, Words.take(1));
        due.is("at first", x.count(4), 0);
        x.input(5);
        due.is("one", x.count(4), 1);
        x.step(1);
        due.is("taken, it is still given", x.count(4), 1);
        x.back(0);
        due.is("to be taken again, it is given once", x.count(4), 1);
        x.poke(1, 5);
        due.is("by hand it stays", x.count(4), 1);
        x.input(6);
        due.is("two", x.count(4), 2);
    }

    private static void countWent() {
        due.says("Promise 12", "rows that went because of room, or by hand (3)");
        BackSteps x = Words.filled(0, 0, Words.set(1, 0));
        x.step(4);
        due.is("the room is full", x.count(3), 0);
        x.step(1);
        due.is("one went because of room", x.count(3), 1);
        x.back(3);
        due.is("none went because of going back", x.count(3), 1);
        x.poke(1, 0);
        due.is("two went by hand", x.count(3), 3);
        x.poke(1, 0);
        due.is("none was left", x.count(3), 3);
    }

    private static void countMarks() {
        due.says("Promise 12", "kept times at marks (5)");
        BackSteps x = Words.filled(0, 3, Words.set(1, 0));
        int[] want = {1, 1, 1, 1, 2, 1, 1, 1, 2, 1};
        for (int time = 0; time < want.length; time++) {
            due.is("at time " + time, x.count(5), want[time]);
            x.step(1);
        }
        x.poke(1, 0);
        due.is("time 10 alone is at no mark", x.count(5), 0);
        x.step(2);
        due.is("now is at a mark", x.count(5), 1);
        x.poke(1, 0);
        due.is("time 12 alone is at a mark", x.count(5), 1);
        x.step(1);
        due.is("the oldest is at a mark", x.count(5), 1);
    }

    private static void countState() {
        due.says("Promise 12", "the state (6: 0 it runs, 1 halted, 2 with a fault, 3 it would wait)");
        BackSteps x = new BackSteps(0, 0);
        due.is("it runs until the word is done", x.count(6), 0);
        x.step(1);
        due.is("halted", x.count(6), 1);
        x.program(0, Words.take(1));
        due.is("halted, before a word that would wait", x.count(6), 1);
        x.back(0);
        due.is("it would wait", x.count(6), 3);
        x.input(1);
        due.is("there is an input", x.count(6), 0);
        x.step(1);
        x.program(1, Words.take(1));
        due.is("it was taken", x.count(6), 3);
        x.program(1, Words.fault());
        due.is("another word", x.count(6), 0);
        x.step(1);
        due.is("with a fault", x.count(6), 2);
        x.program(1, Words.take(1));
        due.is("a fault, before a word that would wait", x.count(6), 2);
    }

    private static void countAnother() {
        due.says("Promise 12", "NONE for another what.");
        BackSteps x = counting();
        int[] others = {7, 8, -1, -2, MIN, MAX};
        for (int what : others) {
            due.is("count(" + what + ")", x.count(what), BackSteps.NONE);
        }
        int[] want = {10, 8, 4, 8, 0, 3, 0};
        for (int what = 0; what < want.length; what++) {
            due.is("count(" + what + ")", x.count(what), want[what]);
        }
    }

    public static void main(String[] args) {
        lookPlaces();
        lookRests();
        lookHalted();
        lookTimes();
        lookAnother();
        wroteLatest();
        wroteWhatever();
        wroteNone();
        wroteNoPlace();
        whenLatest();
        whenWithout();
        whenTimes();
        whenNoPlace();
        replayNothing();
        replayAsItWas();
        replayEverything();
        replayFirst();
        replayNotReached();
        replayChangesNothing();
        costRows();
        costNone();
        countKept();
        countGiven();
        countWent();
        countMarks();
        countState();
        countAnother();
        due.end();
    }
}
