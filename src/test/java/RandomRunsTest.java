import java.util.Random;

/**
 * Promises 1 to 17, all together: long runs of calls, drawn from fixed seeds, on the program and on the Model, with
 * the whole state looked at behind each call.
 */
public final class RandomRunsTest {
    private static final Checks C = new Checks("RandomRunsTest");
    private static final int RUNS = 120;
    private static final int CALLS = 500;

    // What a step does is drawn from one of these rows, by the run's number.
    private static final int KEYS = 0;
    private static final int GROUP = 1;
    private static final int MEMBER = 2;
    private static final int MOVE = 3;
    private static final int REGISTER = 4;
    private static final int PRESS = 5;
    private static final int RELEASE = 6;
    private static final int SEND = 7;
    private static final int SPEAK = 8;
    private static final int DRAW = 9;
    private static final int FAULT = 10;
    private static final int TICK = 11;
    private static final int FRAME = 12;
    private static final int[] WILD = {KEYS, GROUP, MEMBER, MOVE, REGISTER, REGISTER, PRESS, PRESS, PRESS, PRESS, RELEASE,
        RELEASE, SEND, SEND, SPEAK, DRAW, DRAW, FAULT, FAULT, FAULT, TICK, TICK, TICK, TICK};
    private static final int[] CROWDED = {SPEAK, PRESS, PRESS, PRESS, PRESS, PRESS, PRESS, RELEASE, RELEASE, RELEASE,
        RELEASE, FRAME, FRAME, FRAME, FRAME, FRAME};
    private static final int[] CHATTY = {MOVE, REGISTER, PRESS, RELEASE, SEND, SEND, SEND, SEND, SEND, SEND, SEND, SEND,
        SEND, SEND, DRAW, FAULT, FRAME, FRAME, FRAME};
    private static final int[][] ROWS = {WILD, CROWDED, CHATTY};

    // How often the runs have come where it is narrow: else they would prove little.
    private static int fullRows;
    private static int fullCells;
    private static int groupsWithoutChannel;
    private static int fourTries;
    private static int twoTalkers;

    private final Random random;
    private final TrunkCells x = new TrunkCells();
    private final Model model = new Model();
    private final int run;
    private final int[] acts;
    private final int favourite;

    private RandomRunsTest(int run) {
        this.run = run;
        random = new Random(run);
        acts = ROWS[run % ROWS.length];
        favourite = random.nextInt(4);
    }

    public static void main(String[] args) {
        for (int run = 0; run < RUNS; run++) {
            RandomRunsTest test = new RandomRunsTest(run);
            test.begin();
            for (int i = 0; i < CALLS; i++) {
                test.step();
                test.count();
            }
        }
        C.due("rows of six are seen", fullRows > 100 ? 1 : 0, 1);
        C.due("cells with eight to say are seen", fullCells > 100 ? 1 : 0, 1);
        C.due("groups that wait for a channel are seen", groupsWithoutChannel > 100 ? 1 : 0, 1);
        C.due("fourth tries are seen", fourTries > 100 ? 1 : 0, 1);
        C.due("two talkers on a channel are seen", twoTalkers > 100 ? 1 : 0, 1);
        C.end();
    }

    private void count() {
        int talkers = 0;
        for (int m = 0; m < 8; m++) {
            fourTries += model.mobile(m, 6) == 4 ? 1 : 0;
            talkers += model.mobile(m, 1) == 1 && model.mobile(m, 2) == 1 ? 1 : 0;
        }
        twoTalkers += talkers > 1 ? 1 : 0;
        for (int g = 0; g < 4; g++) {
            fullRows += model.call(g, 3) == 6 ? 1 : 0;
            groupsWithoutChannel += model.call(g, 0) < 0 && model.call(g, 3) > 0 ? 1 : 0;
        }
        for (int c = 0; c < 3; c++) {
            fullCells += model.saying(c, 7) >= 0 ? 1 : 0;
        }
    }

    private void both(String call, Runnable ofProgram, Runnable ofModel) {
        RuntimeException due = null;
        try {
            ofModel.run();
        } catch (RuntimeException e) {
            due = e;
        }
        Class<? extends RuntimeException> want = due == null ? null : due.getClass();
        if (due instanceof IndexOutOfBoundsException) {
            want = IndexOutOfBoundsException.class;
        }
        C.dueThrow("run " + run + " " + call, want, ofProgram);
        sameState("run " + run + " behind " + call);
    }

    private void sameState(String where) {
        for (int m = 0; m < 8; m++) {
            for (int what = 0; what < 14; what++) {
                C.due(where + " mobile " + m + " " + what, x.mobile(m, what), model.mobile(m, what));
            }
        }
        for (int g = 0; g < 4; g++) {
            for (int k = 0; k < 7; k++) {
                C.due(where + " call " + g + " " + k, x.call(g, k), model.call(g, k));
                C.due(where + " waiting " + g + " " + k, x.waiting(g, k), model.waiting(g, k));
            }
        }
        for (int c = 0; c < 3; c++) {
            for (int k = 0; k < 9; k++) {
                C.due(where + " saying " + c + " " + k, x.saying(c, k), model.saying(c, k));
            }
        }
    }

    /** Mobiles in cells, and registered, so that runs have calls soon. */
    private void begin() {
        for (int m = 0; m < 8; m++) {
            member(m, acts == CROWDED ? 15 : random.nextInt(16));
            move(m, acts == CHATTY ? m % 3 : random.nextInt(3));
            both("register " + m, register(x, m), registerModel(m));
            tick(4);
        }
    }

    private static Runnable register(TrunkCells x, int m) {
        return () -> x.register(m);
    }

    private Runnable registerModel(int m) {
        return () -> model.register(m);
    }

    private void member(int m, int groups) {
        both("member " + m, () -> x.member(m, groups), () -> model.mobs[m].groups = groups & 15);
    }

    private void move(int m, int cell) {
        both("move " + m + " " + cell, () -> x.move(m, cell), () -> model.move(m, cell));
    }

    private void tick(int n) {
        both("tick " + n, () -> C.due("tick", x.tick(n), model.time), () -> model.tick(n));
    }

    private int someMobile() {
        if (acts == CHATTY && random.nextInt(16) > 0) {
            // One a cell, so that they do not send at once and all comes through.
            return random.nextInt(3);
        }
        return random.nextInt(200) == 0 ? random.nextInt(20) - 10 : random.nextInt(8);
    }

    private int someGroup() {
        if (acts == CROWDED && run % 2 == 0 && random.nextInt(8) > 0) {
            return favourite;
        }
        return random.nextInt(100) == 0 ? random.nextInt(20) - 10 : random.nextInt(4);
    }

    private int someReceiver() {
        return acts == CHATTY && random.nextInt(4) > 0 ? favourite : someMobile();
    }

    private void step() {
        int m = someMobile();
        int g = someGroup();
        int to = someReceiver();
        int any = random.nextInt();
        boolean seldom = random.nextInt(6) == 0;
        switch (acts[random.nextInt(acts.length)]) {
            case KEYS -> both("keys", () -> x.keys(m, any, any % 8 == 0 ? 1 : any),
                    () -> model.keys(m, any, any % 8 == 0 ? 1 : any));
            case GROUP -> both("group", () -> x.group(g, any), () -> model.grps[g].key = any);
            case MEMBER -> member(m, seldom ? any : 15);
            case MOVE -> {
                if (seldom) {
                    move(m, random.nextInt(12) == 0 ? random.nextInt(8) - 4 : random.nextInt(3));
                }
            }
            case REGISTER -> both("register", register(x, m), registerModel(m));
            case PRESS -> both("press " + m + " " + g, () -> x.press(m, g, any), () -> model.press(m, g, any));
            case RELEASE -> both("release " + m, () -> x.release(m), () -> model.release(m));
            case SEND -> both("send", () -> x.send(m, to, any), () -> model.send(m, to, any));
            case SPEAK -> both("speak", () -> x.speak(m, any), () -> model.mobs[m].speech = any & 524287);
            case DRAW -> {
                int draw = random.nextInt(40) == 0 ? any : random.nextInt(seldom ? 16 : 4);
                both("draw", () -> x.draw(m, draw), () -> model.draw(m, draw));
            }
            case FAULT -> fault();
            case FRAME -> tick(4);
            default -> tick(random.nextInt(40) == 0 ? random.nextInt(220) - 5 : random.nextInt(9));
        }
    }

    private void fault() {
        int at = random.nextInt(60) == 0 ? random.nextInt(30) - 10 : random.nextInt(11);
        long places = switch (random.nextInt(4)) {
            case 0 -> random.nextLong();
            case 1 -> 1L << random.nextInt(60) ^ 1L << random.nextInt(54) ^ 1L << random.nextInt(54);
            default -> Checks.turning(likelyBlock(at), wildBlock());
        };
        both("fault " + at + " " + places, () -> x.fault(at, places),
                () -> model.faults[at] = places & Checks.ALL_PLACES);
    }

    /** A block that the one at this place of the faults may well get next. */
    private int likelyBlock(int at) {
        if (at >= 0 && at < 3) {
            for (int m = 0; m < 8; m++) {
                Model.Mob mob = model.mobs[m];
                if (mob.cell == at && mob.kind != 0 && mob.wait == 0) {
                    int frame = (model.time + 3) / 4;
                    int rest = mob.kind == 1 ? Checks.mix(mob.own, frame) % 512 : mob.msgRest;
                    return Checks.block(mob.kind, m, mob.msgGroup, mob.msgLevel, rest);
                }
            }
            return 1 << 19;
        }
        int m = at - 3;
        int cell = m >= 0 && m < 8 ? model.mobs[m].cell : -1;
        int said = cell >= 0 ? model.saying(cell, 0) : -1;
        return said >= 0 ? said : Checks.block(Checks.TAKEN, random.nextInt(8), 0, 0, 0);
    }

    private int wildBlock() {
        int[] kinds = {1, 2, 2, 3, 8, 8, 9, 9, 9, 10, 11, 15};
        return Checks.block(kinds[random.nextInt(kinds.length)], random.nextInt(8), random.nextInt(4),
                random.nextInt(4), random.nextInt(512));
    }
}
