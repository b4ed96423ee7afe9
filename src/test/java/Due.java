/** Compares answers with those that are due, and ends a test. */
final class Due {
    interface Call {
        int answer();
    }

    private final String test;
    private String sentence = "";
    private int wrong = 0;

    Due(String test) {
        this.test = test;
    }

    /** The sentence of the document that the answers from here on are due by; it is told with each wrong one. */
    void says(String where, String sentence) {
        this.sentence = ", " + where + " \"" + sentence + "\"";
    }

    void is(String call, long got, long want) {
        if (got != want) {
            tell(call + " answered " + got + ", due is " + want);
        }
    }

    /** Only the very class that the document names is right, none below or above it. */
    void fails(String call, Class<? extends RuntimeException> want, Call made) {
        try {
            tell(call + " answered " + made.answer() + ", due is throws." + want.getSimpleName());
        } catch (RuntimeException e) {
            if (e.getClass() != want) {
                tell(call + " threw " + e.getClass().getSimpleName() + ", due is " + want.getSimpleName());
            }
        }
    }

    void outside(String call, Call made) {
        fails(call, IndexOutOfBoundsException.class, made);
    }

    void illegal(String call, Call made) {
        fails(call, IllegalArgumentException.class, made);
    }

    /** All that count tells, in its order, but for the inputs given. */
    void counts(String at, BackSteps x, int now, int oldest, int spent, int gone, int marks, int state) {
        is(at + ", count(0)", x.count(0), now);
        is(at + ", count(1)", x.count(1), oldest);
        is(at + ", count(2)", x.count(2), spent);
        is(at + ", count(3)", x.count(3), gone);
        is(at + ", count(5)", x.count(5), marks);
        is(at + ", count(6)", x.count(6), state);
    }

    void same(String call, String got, String want) {
        if (!got.equals(want)) {
            tell(call + ": it is" + got + ", due is" + want);
        }
    }

    void end() {
        if (wrong != 0) {
            System.out.println(test + ": " + wrong + " answers are not as due");
            System.exit(1);
        }
    }

    private void tell(String text) {
        wrong++;
        if (wrong <= 20) {
            System.out.println(test + sentence + ": " + text);
        }
    }
}
