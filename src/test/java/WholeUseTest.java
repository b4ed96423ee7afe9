/** "An object is used for at most 512 calls after it has been made": up to the last of them it answers rightly. */
public final class WholeUseTest {
    private static final Due due = new Due("WholeUseTest");
    private static final int CALLS = 512;
    private static final int ASKED = 20;

    /** As many steps as the calls allow, and all that is kept is right at the end. */
    private static void mostSteps() {
        due.says("What it is", "An object is used for at most 512 calls after it has been made");
        BackSteps x = Words.machine(1020, 63,
                Words.three(2, 1, 1, 2), Words.store(1, 0, 7), Words.jump(2, -2));
        x.poke(2, 1);
        int made = 4;
        int now = 0;
        for (; made < CALLS - ASKED; made++) {
            due.is("step(2000) at " + now, x.step(2000), 2000);
            now += 2000;
        }
        // Each row costs 2, and of three steps the first one adds 1.
        int oldest = now - 512;
        due.counts("behind " + now + " steps", x, now, oldest, 1024, oldest, marks(oldest, now), 0);
        due.is("register 1", x.look(now, 1), adds(now));
        due.is("memory word 7 at the oldest kept time", x.look(oldest, 15), adds(oldest - 1));
        due.illegal("look before it", () -> x.look(oldest - 1, 1));
        due.is("wrote", x.wrote(1), now - (now - 1) % 3);
        due.is("when it was first so", x.when(now, 1, adds(oldest)), oldest + 2 - (oldest + 2) % 3);
        due.is("cost", x.cost(oldest), 2);
        due.is("replay", x.replay(), -1);
        due.is("back", x.back(oldest), 512);
        due.is("the oldest is now", x.look(oldest, 1), adds(oldest));
        due.is("nothing is kept but now", x.replay(), -1);
        due.is("steps again", x.step(512), 512);
        due.is("the same numbers again", x.look(now, 1), adds(now));
        due.is("replay again", x.replay(), -1);
        due.is("the room is full again", x.count(2), 1024);
        made += 6 + 14;
        due.is("calls", made, CALLS);
    }

    /** How often register 1 got more in the steps from time 0 to a time. */
    private static int adds(int time) {
        return (time + 2) / 3;
    }

    private static int marks(int from, int to) {
        int all = 0;
        for (int t = from; t <= to; t++) {
            all += t % 64 == 0 ? 1 : 0;
        }
        return all;
    }

    /** Going back again and again wears out neither rows nor inputs nor the time. */
    private static void toAndFro() {
        due.says("Terms", "INPUTS stay where they are when it goes back: they are taken again.");
        BackSteps x = Words.machine(1020, 0, Words.take(1), Words.put(1));
        x.input(3);
        int made = 3;
        for (; made + 4 < CALLS; made += 4) {
            due.is("steps, from call " + made + " on", x.step(2), 2);
            due.is("the sum, from call " + made + " on", x.look(2, 267), 3);
            due.is("the cost, from call " + made + " on", x.count(2), 5);
            due.is("back, from call " + made + " on", x.back(0), 2);
        }
        due.is("no row went", x.count(3), 0);
        due.is("calls", made + 1, CALLS);
    }

    /** What one object is told is nothing to another one. */
    private static void eachForItself() {
        due.says("Terms", "THE MACHINE has REGISTERS 0 .. 7, MEMORY 0 .. 255, a PROGRAM of 64 words");
        BackSteps alone = Words.machine(9, 1, Words.take(1), Words.store(1, 0, 1), Words.put(1), Words.jump(1, -3));
        alone.input(4);
        alone.step(9);
        String want = Seen.of(alone);
        BackSteps x = new BackSteps(9, 1);
        BackSteps other = Words.filled(1000, 5, Words.three(2, 1, 1, 1));
        x.program(0, Words.take(1));
        other.poke(1, 77);
        x.program(1, Words.store(1, 0, 1));
        x.program(2, Words.put(1));
        other.step(2000);
        x.program(3, Words.jump(1, -3));
        other.input(6);
        x.input(4);
        x.step(3);
        other.back(other.count(1));
        x.step(6);
        other.replay();
        due.same("beside another object", Seen.of(x), want);
    }

    public static void main(String[] args) {
        mostSteps();
        toAndFro();
        eachForItself();
        due.end();
    }
}
