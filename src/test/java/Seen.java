/** What an object tells of itself, as a text, so that two moments can be compared. */
final class Seen {
    private static final int[] PLACES = {0, 1, 2, 3, 4, 5, 6, 7, 8, 9, 262, 263, 264, 265, 266, 267, 268};

    private Seen() {
    }

    /** Takes some fifty calls of the object's 512. */
    static String of(BackSteps x) {
        StringBuilder all = new StringBuilder();
        for (int what = 0; what <= 6; what++) {
            all.append(" count(").append(what).append(") ").append(x.count(what));
        }
        int now = x.count(0);
        int oldest = x.count(1);
        for (int i : PLACES) {
            all.append(" look(").append(now).append(", ").append(i).append(") ").append(x.look(now, i));
            all.append(" look(").append(oldest).append(", ").append(i).append(") ").append(x.look(oldest, i));
        }
        all.append(" wrote(1) ").append(x.wrote(1)).append(" wrote(263) ").append(x.wrote(263));
        if (oldest < now) {
            all.append(" cost ").append(x.cost(oldest)).append(' ').append(x.cost(now - 1));
        }
        return all.append(" replay() ").append(x.replay()).toString();
    }
}
