import java.util.Random;

/**
 * Promises 1 to 17, all together: long runs of calls, drawn from fixed seeds, on the program and on the Model, with
 * the whole state looked at behind each call.
 */
public final class RandomRunsTest {
    private static final Checks C = new Checks("RandomRunsTest");
    private static final int RUNS = 120;
    private static final int CALLS = 500;

    private final Random random;
    private final TrunkCells x = new TrunkCells();
    private final Model model = new Model();
    private final int run;
    private final boolean lean;

    private RandomRunsTest(int run) {
        this.run = run;
        random = new Random(run);
        lean = run % 3 == 0;
    }

    public static void main(String[] args) {
        for (int run = 0; run < RUNS; run++) {
            RandomRunsTest test = new RandomRunsTest(run);
            test.begin();
            for (int i = 0; i < CALLS; i++) {
                test.step();
            }
        }
        C.end();
    }

    private void both(String call, Runnable ofProgram, Runnable ofModel) {
        RuntimeException due = null;
        try {
            ofModel.run();
        } catch (RuntimeException e) {
            due = e;
        }
        Class<? extends RuntimeException> want = due == null ? null : due.getClass();
        if (due instanceof IndexOutOfBoundsException) {
            want = IndexOutOfBoundsException.class;
        }
        C.dueThrow("run " + run + " " + call, want, ofProgram);
        sameState("run " + run + " behind " + call);
    }

    private void sameState(String where) {
        for (int m = 0; m < 8; m++) {
            for (int what = 0; what < 14; what++) {
                C.due(where + " mobile " + m + " " + what, x.mobile(m, what), model.mobile(m, what));
            }
        }
        for (int g = 0; g < 4; g++) {
            for (int k = 0; k < 7; k++) {
                C.due(where + " call " + g + " " + k, x.call(g, k), model.call(g, k));
                C.due(where + " waiting " + g + " " + k, x.waiting(g, k), model.waiting(g, k));
            }
        }
        for (int c = 0; c < 3; c++) {
            for (int k = 0; k < 9; k++) {
                C.due(where + " saying " + c + " " + k, x.saying(c, k), model.saying(c, k));
            }
        }
    }

    /** Mobiles in cells, and registered, so that runs have calls soon. */
    private void begin() {
        for (int m = 0; m < 8; m++) {
            member(m, lean ? 1 << random.nextInt(4) | 1 << random.nextInt(4) : random.nextInt(16));
            move(m, random.nextInt(3));
            both("register " + m, register(x, m), registerModel(m));
            tick(4);
        }
    }

    private static Runnable register(TrunkCells x, int m) {
        return () -> x.register(m);
    }

    private Runnable registerModel(int m) {
        return () -> model.register(m);
    }

    private void member(int m, int groups) {
        both("member " + m, () -> x.member(m, groups), () -> model.mobs[m].groups = groups & 15);
    }

    private void move(int m, int cell) {
        both("move " + m + " " + cell, () -> x.move(m, cell), () -> model.move(m, cell));
    }

    private void tick(int n) {
        both("tick " + n, () -> C.due("tick", x.tick(n), model.time), () -> model.tick(n));
    }

    private int someMobile() {
        return random.nextInt(200) == 0 ? random.nextInt(20) - 10 : random.nextInt(8);
    }

    private int someGroup() {
        return random.nextInt(100) == 0 ? random.nextInt(20) - 10 : random.nextInt(4);
    }

    private void step() {
        int m = someMobile();
        int g = someGroup();
        int any = random.nextInt();
        switch (random.nextInt(24)) {
            case 0 -> both("keys", () -> x.keys(m, any, any % 8 == 0 ? 1 : any),
                    () -> model.keys(m, any, any % 8 == 0 ? 1 : any));
            case 1 -> both("group", () -> x.group(g, any), () -> model.grps[g].key = any);
            case 2 -> {
                if (random.nextInt(6) == 0) {
                    member(m, any);
                }
            }
            case 3 -> {
                if (random.nextInt(4) == 0) {
                    move(m, random.nextInt(12) == 0 ? random.nextInt(8) - 4 : random.nextInt(3));
                }
            }
            case 4, 5 -> both("register", register(x, m), registerModel(m));
            case 6, 7, 8, 9 -> both("press " + m + " " + g, () -> x.press(m, g, any), () -> model.press(m, g, any));
            case 10, 11 -> both("release " + m, () -> x.release(m), () -> model.release(m));
            case 12, 13 -> {
                int to = someMobile();
                both("send", () -> x.send(m, to, any), () -> model.send(m, to, any));
            }
            case 14 -> both("speak", () -> x.speak(m, any), () -> model.mobs[m].speech = any & 524287);
            case 15, 16 -> {
                int draw = random.nextInt(40) == 0 ? any : random.nextInt(lean ? 3 : 16);
                both("draw", () -> x.draw(m, draw), () -> model.draw(m, draw));
            }
            case 17, 18, 19 -> fault();
            default -> tick(random.nextInt(40) == 0 ? random.nextInt(220) - 5 : random.nextInt(9));
        }
    }

    private void fault() {
        int at = random.nextInt(60) == 0 ? random.nextInt(30) - 10 : random.nextInt(11);
        long places = switch (random.nextInt(4)) {
            case 0 -> random.nextLong();
            case 1 -> 1L << random.nextInt(60) ^ 1L << random.nextInt(54) ^ 1L << random.nextInt(54);
            default -> Checks.turning(likelyBlock(at), wildBlock());
        };
        both("fault " + at + " " + places, () -> x.fault(at, places),
                () -> model.faults[at] = places & Checks.ALL_PLACES);
    }

    /** A block that the one at this place of the faults may well get next. */
    private int likelyBlock(int at) {
        if (at >= 0 && at < 3) {
            for (int m = 0; m < 8; m++) {
                Model.Mob mob = model.mobs[m];
                if (mob.cell == at && mob.kind != 0 && mob.wait == 0) {
                    int frame = (model.time + 3) / 4;
                    int rest = mob.kind == 1 ? Checks.mix(mob.own, frame) % 512 : mob.msgRest;
                    return Checks.block(mob.kind, m, mob.msgGroup, mob.msgLevel, rest);
                }
            }
            return 1 << 19;
        }
        int m = at - 3;
        int cell = m >= 0 && m < 8 ? model.mobs[m].cell : -1;
        int said = cell >= 0 ? model.saying(cell, 0) : -1;
        return said >= 0 ? said : Checks.block(Checks.TAKEN, random.nextInt(8), 0, 0, 0);
    }

    private int wildBlock() {
        int[] kinds = {1, 2, 2, 3, 8, 8, 9, 9, 9, 10, 11, 15};
        return Checks.block(kinds[random.nextInt(kinds.length)], random.nextInt(8), random.nextInt(4),
                random.nextInt(4), random.nextInt(512));
    }
}
