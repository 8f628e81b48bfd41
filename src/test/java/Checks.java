import java.util.function.Consumer;

/**
 * What all tests use: answers against those that are due, control blocks, faults that make one block another, and
 * all that an object answers. An object is good for 512 calls, so no test asks one more often.
 */
final class Checks {
    static final int NONE = TrunkCells.NONE;
    static final int REGISTER = 1;
    static final int REQUEST = 2;
    static final int DATA = 3;
    static final int TAKEN = 8;
    static final int GRANT = 9;
    static final int CEASE = 10;
    static final int DATA_DOWN = 11;
    static final long ALL_PLACES = (1L << 54) - 1;

    private final String test;
    private int wrong;

    Checks(String test) {
        this.test = test;
    }

    void due(String what, long got, long want) {
        if (got != want) {
            wrong++;
            System.out.println(test + ": " + what + " answered " + got + ", due is " + want);
        }
    }

    void dueThrow(String what, Class<? extends RuntimeException> want, Runnable call) {
        String got = "nothing";
        try {
            call.run();
        } catch (RuntimeException e) {
            got = e.getClass().getSimpleName();
        }
        String due = want == null ? "nothing" : want.getSimpleName();
        if (!got.equals(due)) {
            wrong++;
            System.out.println(test + ": " + what + " threw " + got + ", due is " + due);
        }
    }

    void dueIndex(String what, Runnable call) {
        dueThrow(what, IndexOutOfBoundsException.class, call);
    }

    void dueState(String what, Runnable call) {
        dueThrow(what, IllegalStateException.class, call);
    }

    void dueArgument(String what, Runnable call) {
        dueThrow(what, IllegalArgumentException.class, call);
    }

    /** A row of answers, told as one. */
    void dueRow(String what, IntToAnswer answer, int... want) {
        for (int i = 0; i < want.length; i++) {
            due(what + " " + i, answer.at(i), want[i]);
        }
    }

    /** All answers of stateOf against those that are due. */
    void dueAnswers(String what, int[] got, int[] want) {
        for (int i = 0; i < want.length; i++) {
            if (got[i] != want[i]) {
                due(what + ": " + question(i), got[i], want[i]);
            }
        }
    }

    void end() {
        System.out.println(test + ": " + (wrong == 0 ? "all answers are as due" : wrong + " are not as due"));
        if (wrong != 0) {
            System.exit(1);
        }
    }

    interface IntToAnswer {
        long at(int i);
    }

    /** What a program or a model is asked for its state. */
    interface Answers {
        int mobile(int mobile, int what);

        int call(int group, int what);

        int waiting(int group, int k);

        int saying(int cell, int k);

        int time();
    }

    private static Answers answersOf(TrunkCells x) {
        return new Answers() {
            @Override
            public int mobile(int mobile, int what) {
                return x.mobile(mobile, what);
            }

            @Override
            public int call(int group, int what) {
                return x.call(group, what);
            }

            @Override
            public int waiting(int group, int k) {
                return x.waiting(group, k);
            }

            @Override
            public int saying(int cell, int k) {
                return x.saying(cell, k);
            }

            @Override
            public int time() {
                return x.tick(0);
            }
        };
    }

    private static final int OF_MOBILES = 8 * 14;
    private static final int OF_CALLS = 4 * 4;
    private static final int OF_ROWS = 4 * 6;
    private static final int OF_CELLS = 3 * 8;
    /** How many calls stateOf makes. */
    static final int QUESTIONS = OF_MOBILES + OF_CALLS + OF_ROWS + OF_CELLS + 1;

    /** All that can be seen of an object without changing it. */
    static int[] stateOf(TrunkCells x) {
        return stateOf(answersOf(x));
    }

    static int[] stateOf(Answers x) {
        int[] all = new int[QUESTIONS];
        int n = 0;
        for (int i = 0; i < OF_MOBILES; i++) {
            all[n++] = x.mobile(i / 14, i % 14);
        }
        for (int i = 0; i < OF_CALLS; i++) {
            all[n++] = x.call(i / 4, i % 4);
        }
        for (int i = 0; i < OF_ROWS; i++) {
            all[n++] = x.waiting(i / 6, i % 6);
        }
        for (int i = 0; i < OF_CELLS; i++) {
            all[n++] = x.saying(i / 8, i % 8);
        }
        all[n] = x.time();
        return all;
    }

    private static String question(int number) {
        int i = number;
        if (i < OF_MOBILES) {
            return "mobile(" + i / 14 + ", " + i % 14 + ")";
        }
        i -= OF_MOBILES;
        if (i < OF_CALLS) {
            return "call(" + i / 4 + ", " + i % 4 + ")";
        }
        i -= OF_CALLS;
        if (i < OF_ROWS) {
            return "waiting(" + i / 6 + ", " + i % 6 + ")";
        }
        i -= OF_ROWS;
        return i < OF_CELLS ? "saying(" + i / 8 + ", " + i % 8 + ")" : "time";
    }

    /** A new object with some calls behind it. */
    static TrunkCells after(Consumer<TrunkCells> calls) {
        TrunkCells x = new TrunkCells();
        calls.accept(x);
        return x;
    }

    static int block(int kind, int mobile, int group, int level, int rest) {
        return kind * 65536 + mobile * 8192 + group * 2048 + level * 512 + rest;
    }

    /** The fault that makes of one block's burst another's, in any colour. */
    static long turning(int from, int into) {
        TrunkCells x = new TrunkCells();
        return x.coded(from, 0) ^ x.coded(into, 0);
    }

    /**
     * A control slot in which one mobile (registered nowhere) has something taken, and another one in its cell
     * decodes a block in place of that TAKEN.
     */
    static void hears(TrunkCells x, int sender, int mobile, int block) {
        toFrame(x);
        x.send(sender, sender, 0);
        x.fault(3 + mobile, turning(block(TAKEN, sender, 0, 0, 0), block));
        x.tick(1);
    }

    static int mix(int k, int n) {
        long x = k & 0xFFFFFFFFL;
        for (int i = 0; i < 3; i++) {
            x = (x * 1103515245L + n + 12345L) & 0xFFFFFFFFL;
        }
        return (int) (x / 256 % (1L << 23));
    }

    /** To the next slot 0. */
    static void toFrame(TrunkCells x) {
        x.tick((4 - x.tick(0) % 4) % 4);
    }

    /** A whole frame. */
    static void frame(TrunkCells x) {
        toFrame(x);
        x.tick(4);
    }

    /** An object with mobiles in cells, registered there, at the beginning of a frame; NONE leaves one off. */
    static TrunkCells withMobilesIn(int... cells) {
        TrunkCells x = new TrunkCells();
        for (int i = 0; i < cells.length; i++) {
            if (cells[i] != NONE) {
                x.move(i, cells[i]);
                x.register(i);
                x.tick(4);
            }
        }
        return x;
    }
}
