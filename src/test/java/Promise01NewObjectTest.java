/** Promise 1: the room, the marks, and how a new object stands. */
public final class Promise01NewObjectTest {
    private static final Due due = new Due("Promise01NewObjectTest");

    /** Steps that cost 1 each fill the room with as many rows as it has. */
    private static void room(int room, int want) {
        BackSteps x = new BackSteps(room, 0);
        for (int i = 0; i < 64; i++) {
            x.program(i, Words.set(0, 0));
        }
        x.step(2000);
        due.is("room " + room + ", rows", x.count(0) - x.count(1), want);
        due.is("room " + room + ", cost", x.count(2), want);
        due.is("room " + room + ", gone", x.count(3), 2000 - want);
    }

    private static void marks(int every, int distance) {
        BackSteps x = new BackSteps(1020, every);
        for (int i = 0; i < 64; i++) {
            x.program(i, Words.set(0, 0));
        }
        for (int time = 0; time <= 200; time++) {
            due.is("every " + every + ", marks at " + time, x.count(5), 1 + time / distance);
            x.step(1);
        }
    }

    public static void main(String[] args) {
        BackSteps x = new BackSteps(7, 9);
        due.counts("new", x, 0, 0, 0, 0, 1, 0);
        due.is("no inputs", x.count(4), 0);
        for (int i = 0; i <= 268; i++) {
            due.is("look(0, " + i + ")", x.look(0, i), 0);
        }
        for (int i = 0; i < 64; i++) {
            due.is("program word " + i, x.program(i, 1), 0);
        }
        due.illegal("look(1, 0)", () -> x.look(1, 0));
        due.illegal("look(-1, 0)", () -> x.look(-1, 0));
        due.illegal("cost(0)", () -> x.cost(0));
        due.is("back(0)", x.back(0), 0);
        room(0, 4);
        room(1, 5);
        room(1020, 1024);
        room(1021, 4);
        room(-1, 1024);
        room(-1021, 4);
        room(Integer.MIN_VALUE, 4 + Math.floorMod(Integer.MIN_VALUE, 1021));
        room(Integer.MAX_VALUE, 4 + Integer.MAX_VALUE % 1021);
        marks(0, 1);
        marks(3, 4);
        marks(63, 64);
        marks(64, 1);
        marks(-1, 64);
        marks(-64, 1);
        marks(Integer.MIN_VALUE, 1);
        marks(Integer.MAX_VALUE, 64);
        due.end();
    }
}
