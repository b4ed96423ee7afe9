/** Promises 5 and 6, going on and going back: each method tests one sentence, that it quotes. */
public final class EdgesOfGoingTest {
    private static final Due due = new Due("EdgesOfGoingTest");
    private static final int MIN = Integer.MIN_VALUE;
    private static final int MAX = Integer.MAX_VALUE;

    private static void mostSteps() {
        due.says("Promise 5", "Up to so many steps (1 .. 2000)");
        BackSteps x = Words.filled(0, 0, Words.set(1, 0));
        due.is("step(1)", x.step(1), 1);
        due.is("step(2)", x.step(2), 2);
        due.is("step(1999)", x.step(1999), 1999);
        due.is("step(2000)", x.step(2000), 2000);
        due.is("the time", x.count(0), 4002);
    }

    private static void asLongAsItRuns() {
        due.says("Promise 5", "as long as it runs and need not wait: how many were done.");
        BackSteps x = Words.machine(1020, 0, Words.set(1, 1), Words.HALT);
        due.is("the step that halts is done", x.step(2000), 2);
        due.is("halted", x.step(2000), 0);
        BackSteps y = Words.machine(1020, 0, Words.set(1, 1), Words.fault());
        due.is("the step of a fault is done", y.step(2000), 2);
        due.is("with a fault", y.step(2000), 0);
        BackSteps z = Words.machine(1020, 0, Words.take(1), Words.take(1));
        due.is("waiting at first", z.step(2000), 0);
        z.input(3);
        due.is("one input", z.step(2000), 1);
        due.is("waiting", z.step(1), 0);
        z.program(1, Words.HALT);
        due.is("another word, that need not wait", z.step(2000), 1);
        BackSteps just = Words.machine(1020, 0, Words.set(1, 1), Words.HALT);
        due.is("step(1)", just.step(1), 1);
        due.is("it still runs", just.count(6), 0);
        due.is("step(1) halts", just.step(1), 1);
        due.is("it is halted", just.count(6), 1);
    }

    private static void noSteps() {
        due.says("Promise 5", "IllegalArgumentException, when n is none of these.");
        BackSteps runs = Words.filled(0, 0, Words.set(1, 0));
        runs.step(5);
        BackSteps halted = Words.machine(0, 0, Words.HALT);
        halted.step(1);
        BackSteps waits = Words.machine(0, 0, Words.take(1));
        BackSteps[] all = {runs, halted, waits};
        int[] none = {0, -1, 2001, -2000, MIN, MAX};
        for (BackSteps x : all) {
            String before = Seen.of(x);
            for (int n : none) {
                due.illegal("step(" + n + ") in state " + x.count(6), () -> x.step(n));
            }
            due.same("a refused call changes nothing", Seen.of(x), before);
        }
    }

    /** The state at each time on the way on is the state at that time on the way back. */
    private static void stateAsItWas() {
        due.says("Promise 6",
                "Goes back to a time that is kept: the state is what it was .. how many steps back that was.");
        int[] program = {Words.take(1), Words.store(1, 0, 255), Words.put(1), Words.three(11, 1, 1, 1),
            Words.store(1, 0, 255), Words.jump(1, -6), Words.HALT};
        BackSteps x = Words.machine(1020, 0, program);
        x.program(63, Words.fault());
        x.input(7);
        int[] watched = {1, 263, 264, 265, 266, 267, 268};
        int[][] seen = new int[8][watched.length];
        for (int time = 0; time < 8; time++) {
            for (int k = 0; k < watched.length; k++) {
                seen[time][k] = x.look(time, watched[k]);
            }
            due.is("step(1) at " + time, x.step(1), time < 7 ? 1 : 0);
        }
        due.is("a fault", x.count(6), 2);
        for (int time = 7; time >= 0; time--) {
            due.is("back(" + time + ")", x.back(time), time < 7 ? 1 : 0);
            due.is("the time", x.count(0), time);
            for (int k = 0; k < watched.length; k++) {
                due.is("back at " + time + ", " + watched[k], x.look(time, watched[k]), seen[time][k]);
            }
        }
        due.is("on again", x.step(50), 7);
        due.is("back over all of it", x.back(0), 7);
        due.is("it runs", x.count(6), 0);
    }

    private static void asTheyAreNow() {
        due.says("Promise 6", "(program and inputs given are as they are now)");
        BackSteps x = Words.machine(1020, 0, Words.take(1), Words.set(2, 1), Words.HALT);
        x.input(5);
        x.step(2);
        x.program(1, Words.set(2, 9));
        x.input(6);
        due.is("back(0)", x.back(0), 2);
        due.is("the word of now", x.program(1, Words.take(2)), Words.set(2, 9));
        due.is("the inputs of now", x.count(4), 2);
        x.step(2);
        due.is("the first input", x.look(2, 1), 5);
        due.is("the second, by the word of now", x.look(2, 2), 6);
    }

    private static void rowsBehindGo() {
        due.says("Promise 6", "rows behind it go");
        BackSteps x = Words.machine(1020, 0, Words.set(1, 1), Words.set(1, 2), Words.set(1, 3), Words.set(1, 4));
        x.step(4);
        x.back(2);
        due.counts("back(2)", x, 2, 0, 4, 0, 3, 0);
        due.is("the row before it stays", x.cost(1), 2);
        due.illegal("the row from it on", () -> x.cost(2));
        due.illegal("the time behind it", () -> x.look(3, 1));
        due.illegal("going there", () -> x.back(3));
        due.is("the latest write", x.wrote(1), 2);
        x.program(2, Words.set(2, 8));
        x.step(1);
        due.is("another row instead", x.wrote(2), 3);
        due.is("the old row's write is none", x.wrote(1), 2);
        due.is("the number before", x.look(3, 1), 2);
    }

    private static void edgesOfKept() {
        due.says("Promise 6", "IllegalArgumentException, when it is not kept.");
        BackSteps x = Words.filled(0, 0, Words.set(1, 0));
        x.step(10);
        String before = Seen.of(x);
        int[] notKept = {5, 0, -1, 11, 12, MIN, MAX};
        for (int time : notKept) {
            due.illegal("back(" + time + ")", () -> x.back(time));
        }
        due.same("a refused call changes nothing", Seen.of(x), before);
        due.is("now", x.back(10), 0);
        due.same("going back to now changes nothing", Seen.of(x), before);
        due.is("the oldest", x.back(6), 4);
        due.counts("nothing but now", x, 6, 6, 0, 6, 1, 0);
        due.illegal("the one before", () -> x.back(5));
        due.illegal("the one behind", () -> x.back(7));
        due.is("now again", x.back(6), 0);
    }

    /** In the widest room the rows go round the whole ring that holds them. */
    private static void widestRoom() {
        due.says("Promise 6", "Goes back to a time that is kept: the state is what it was");
        BackSteps x = Words.filled(-1, 0, Words.three(2, 1, 1, 2));
        x.poke(2, 1);
        x.step(2000);
        due.is("rows of 2: the oldest", x.count(1), 2000 - 512);
        due.is("at the oldest", x.look(1488, 1), 1488);
        due.is("back", x.back(1488), 512);
        due.is("the register", x.look(1488, 1), 1488);
        due.is("the place", x.look(1488, 264), 1488 % 64);
        BackSteps y = Words.filled(-1, 0, Words.jump(1, 5));
        y.step(2000);
        y.step(2000);
        due.is("rows of 1: the oldest", y.count(1), 4000 - 1024);
        for (int k = 0; k <= 1024; k += 64) {
            due.is("the place at " + (2976 + k), y.look(2976 + k, 264), (2976 + k) % 64);
        }
        due.is("replay()", y.replay(), -1);
        due.illegal("one before the oldest", () -> y.back(2975));
        due.is("back over 1024 rows", y.back(2976), 1024);
        due.counts("nothing but now", y, 2976, 2976, 0, 2976, 1, 0);
        due.is("the place", y.look(2976, 264), 2976 % 64);
    }

    public static void main(String[] args) {
        mostSteps();
        asLongAsItRuns();
        noSteps();
        stateAsItWas();
        asTheyAreNow();
        rowsBehindGo();
        edgesOfKept();
        widestRoom();
        due.end();
    }
}
