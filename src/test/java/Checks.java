/** What all tests use: answers against those that are due, control blocks, and faults that make one block another. */
final class Checks {
    static final int NONE = TrunkCells.NONE;
    static final int REGISTER = 1;
    static final int REQUEST = 2;
    static final int DATA = 3;
    static final int TAKEN = 8;
    static final int GRANT = 9;
    static final int CEASE = 10;
    static final int DATA_DOWN = 11;
    static final long ALL_PLACES = (1L << 54) - 1;

    private final String test;
    private int wrong;

    Checks(String test) {
        this.test = test;
    }

    void due(String what, long got, long want) {
        if (got != want) {
            wrong++;
            System.out.println(test + ": " + what + " answered " + got + ", due is " + want);
        }
    }

    void dueThrow(String what, Class<? extends RuntimeException> want, Runnable call) {
        String got = "nothing";
        try {
            call.run();
        } catch (RuntimeException e) {
            got = e.getClass().getSimpleName();
        }
        String due = want == null ? "nothing" : want.getSimpleName();
        if (!got.equals(due)) {
            wrong++;
            System.out.println(test + ": " + what + " threw " + got + ", due is " + due);
        }
    }

    void dueIndex(String what, Runnable call) {
        dueThrow(what, IndexOutOfBoundsException.class, call);
    }

    void dueState(String what, Runnable call) {
        dueThrow(what, IllegalStateException.class, call);
    }

    void dueArgument(String what, Runnable call) {
        dueThrow(what, IllegalArgumentException.class, call);
    }

    /** A row of answers, told as one. */
    void dueRow(String what, IntToAnswer answer, int... want) {
        for (int i = 0; i < want.length; i++) {
            due(what + " " + i, answer.at(i), want[i]);
        }
    }

    void end() {
        System.out.println(test + ": " + (wrong == 0 ? "all answers are as due" : wrong + " are not as due"));
        if (wrong != 0) {
            System.exit(1);
        }
    }

    interface IntToAnswer {
        long at(int i);
    }

    static int block(int kind, int mobile, int group, int level, int rest) {
        return kind * 65536 + mobile * 8192 + group * 2048 + level * 512 + rest;
    }

    /** The fault that makes of one block's burst another's, in any colour. */
    static long turning(int from, int into) {
        TrunkCells x = new TrunkCells();
        return x.coded(from, 0) ^ x.coded(into, 0);
    }

    static int mix(int k, int n) {
        long x = k & 0xFFFFFFFFL;
        for (int i = 0; i < 3; i++) {
            x = (x * 1103515245L + n + 12345L) & 0xFFFFFFFFL;
        }
        return (int) (x / 256 % (1L << 23));
    }

    /** To the next slot 0. */
    static void toFrame(TrunkCells x) {
        x.tick((4 - x.tick(0) % 4) % 4);
    }

    /** A whole frame. */
    static void frame(TrunkCells x) {
        toFrame(x);
        x.tick(4);
    }

    /** An object with mobiles in cells, registered there, at the beginning of a frame; NONE leaves one off. */
    static TrunkCells withMobilesIn(int... cells) {
        TrunkCells x = new TrunkCells();
        for (int i = 0; i < cells.length; i++) {
            if (cells[i] != NONE) {
                x.move(i, cells[i]);
                x.register(i);
                x.tick(4);
            }
        }
        return x;
    }
}
