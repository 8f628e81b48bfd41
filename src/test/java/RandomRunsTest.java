import java.util.ArrayList;
import java.util.List;
import java.util.Random;
import java.util.function.Consumer;

/**
 * Promises 1 to 17, all together: runs of calls, drawn from fixed seeds. The Model goes through a run once; then new
 * objects go through its first calls, each one through some more of them, and are asked for their whole state.
 */
public final class RandomRunsTest {
    private static final Checks C = new Checks("RandomRunsTest");
    private static final int RUNS = 150;
    // With the questions at the end an object stays below its 512 calls.
    private static final int CALLS = 500 - Checks.QUESTIONS;
    private static final int CALLS_BETWEEN_LOOKS = 3;

    // What a step does is drawn from one of these rows, by the run's number.
    private static final int KEYS = 0;
    private static final int GROUP = 1;
    private static final int MEMBER = 2;
    private static final int MOVE = 3;
    private static final int REGISTER = 4;
    private static final int PRESS = 5;
    private static final int RELEASE = 6;
    private static final int SEND = 7;
    private static final int SPEAK = 8;
    private static final int DRAW = 9;
    private static final int FAULT = 10;
    private static final int TICK = 11;
    private static final int FRAME = 12;
    private static final int[] WILD = {KEYS, GROUP, MEMBER, MOVE, REGISTER, REGISTER, PRESS, PRESS, PRESS, PRESS,
        RELEASE, RELEASE, SEND, SEND, SPEAK, DRAW, DRAW, FAULT, FAULT, FAULT, TICK, TICK, TICK, TICK};
    private static final int[] CROWDED = {SPEAK, PRESS, PRESS, PRESS, PRESS, PRESS, PRESS, RELEASE, RELEASE, RELEASE,
        RELEASE, FRAME, FRAME, FRAME, FRAME, FRAME};
    private static final int[] CHATTY = {MOVE, REGISTER, PRESS, RELEASE, SEND, SEND, SEND, SEND, SEND, SEND, SEND, SEND,
        SEND, SEND, DRAW, FAULT, FRAME, FRAME, FRAME};
    private static final int[][] ROWS = {WILD, CROWDED, CHATTY};

    // How often the runs have come where it is narrow: else they would prove little.
    private static int fullRows;
    private static int fullCells;
    private static int groupsWithoutChannel;
    private static int fourTries;
    private static int twoTalkers;

    /** A call, what it throws (null: nothing), and the state behind it. */
    private record Step(String name, Consumer<TrunkCells> call, Class<? extends RuntimeException> want, int[] state) {
    }

    private final Random random;
    private final Model model = new Model();
    private final List<Step> steps = new ArrayList<>();
    private final int run;
    private final int[] acts;
    private final int favourite;

    private RandomRunsTest(int run) {
        this.run = run;
        random = new Random(run);
        acts = ROWS[run % ROWS.length];
        favourite = random.nextInt(4);
    }

    public static void main(String[] args) {
        for (int run = 0; run < RUNS; run++) {
            RandomRunsTest test = new RandomRunsTest(run);
            test.begin();
            while (test.steps.size() < CALLS) {
                test.step();
                test.count();
            }
            for (int calls = 1 + run % CALLS_BETWEEN_LOOKS; calls <= CALLS; calls += CALLS_BETWEEN_LOOKS) {
                test.replay(calls);
            }
        }
        C.due("rows of six are seen", fullRows > 100 ? 1 : 0, 1);
        C.due("cells with eight to say are seen", fullCells > 100 ? 1 : 0, 1);
        C.due("groups that wait for a channel are seen", groupsWithoutChannel > 100 ? 1 : 0, 1);
        C.due("fourth tries are seen", fourTries > 100 ? 1 : 0, 1);
        C.due("two talkers on a channel are seen", twoTalkers > 100 ? 1 : 0, 1);
        C.end();
    }

    private void replay(int calls) {
        TrunkCells x = new TrunkCells();
        for (int i = 0; i < calls - 1; i++) {
            try {
                steps.get(i).call.accept(x);
            } catch (RuntimeException e) {
                // What it throws is looked at when it is a replay's last call.
                continue;
            }
        }
        Step last = steps.get(calls - 1);
        String where = "run " + run + " call " + calls + " " + last.name;
        C.dueThrow(where, last.want, () -> last.call.accept(x));
        C.dueAnswers(where, Checks.stateOf(x), last.state);
    }

    private void count() {
        int talkers = 0;
        for (int m = 0; m < 8; m++) {
            fourTries += model.mobile(m, 6) == 4 ? 1 : 0;
            talkers += model.mobile(m, 1) == 1 && model.mobile(m, 2) == 1 ? 1 : 0;
        }
        twoTalkers += talkers > 1 ? 1 : 0;
        for (int g = 0; g < 4; g++) {
            fullRows += model.call(g, 3) == 6 ? 1 : 0;
            groupsWithoutChannel += model.call(g, 0) < 0 && model.call(g, 3) > 0 ? 1 : 0;
        }
        for (int c = 0; c < 3; c++) {
            fullCells += model.saying(c, 7) >= 0 ? 1 : 0;
        }
    }

    private void both(String name, Consumer<TrunkCells> ofProgram, Runnable ofModel) {
        Class<? extends RuntimeException> want = null;
        try {
            ofModel.run();
        } catch (IndexOutOfBoundsException e) {
            want = IndexOutOfBoundsException.class;
        } catch (RuntimeException e) {
            want = e.getClass();
        }
        steps.add(new Step(name, ofProgram, want, Checks.stateOf(model)));
    }

    /** Mobiles in cells, and registered, so that runs have calls soon. */
    private void begin() {
        for (int m = 0; m < 8; m++) {
            member(m, acts == CROWDED ? 15 : random.nextInt(16));
            move(m, acts == CHATTY ? m % 3 : random.nextInt(3));
            register(m);
            tick(4);
        }
    }

    private void register(int m) {
        both("register " + m, x -> x.register(m), () -> model.register(m));
    }

    private void member(int m, int groups) {
        both("member " + m, x -> x.member(m, groups), () -> model.mobs[m].groups = groups & 15);
    }

    private void move(int m, int cell) {
        both("move " + m + " " + cell, x -> x.move(m, cell), () -> model.move(m, cell));
    }

    private void tick(int n) {
        int due = model.time + n;
        both("tick " + n, x -> C.due("tick", x.tick(n), due), () -> model.tick(n));
    }

    private int someMobile() {
        if (acts == CHATTY && random.nextInt(16) > 0) {
            // One a cell, so that they do not send at once and all comes through.
            return random.nextInt(3);
        }
        return random.nextInt(200) == 0 ? random.nextInt(20) - 10 : random.nextInt(8);
    }

    private int someGroup() {
        if (acts == CROWDED && run % 2 == 0 && random.nextInt(8) > 0) {
            return favourite;
        }
        return random.nextInt(100) == 0 ? random.nextInt(20) - 10 : random.nextInt(4);
    }

    private int someReceiver() {
        return acts == CHATTY && random.nextInt(4) > 0 ? favourite : someMobile();
    }

    private void step() {
        int m = someMobile();
        int g = someGroup();
        int to = someReceiver();
        int any = random.nextInt();
        boolean seldom = random.nextInt(6) == 0;
        switch (acts[random.nextInt(acts.length)]) {
            case KEYS -> both("keys", x -> x.keys(m, any, any % 8 == 0 ? 1 : any),
                    () -> model.keys(m, any, any % 8 == 0 ? 1 : any));
            case GROUP -> both("group", x -> x.group(g, any), () -> model.grps[g].key = any);
            case MEMBER -> member(m, seldom ? any : 15);
            case MOVE -> {
                if (seldom) {
                    move(m, random.nextInt(12) == 0 ? random.nextInt(8) - 4 : random.nextInt(3));
                }
            }
            case REGISTER -> register(m);
            case PRESS -> both("press " + m + " " + g, x -> x.press(m, g, any), () -> model.press(m, g, any));
            case RELEASE -> both("release " + m, x -> x.release(m), () -> model.release(m));
            case SEND -> both("send", x -> x.send(m, to, any), () -> model.send(m, to, any));
            case SPEAK -> both("speak", x -> x.speak(m, any), () -> model.mobs[m].speech = any & 524287);
            case DRAW -> {
                int draw = random.nextInt(40) == 0 ? any : random.nextInt(seldom ? 16 : 4);
                both("draw", x -> x.draw(m, draw), () -> model.draw(m, draw));
            }
            case FAULT -> fault();
            case FRAME -> tick(4);
            default -> tick(random.nextInt(40) == 0 ? random.nextInt(220) - 5 : random.nextInt(9));
        }
    }

    private void fault() {
        int at = random.nextInt(60) == 0 ? random.nextInt(30) - 10 : random.nextInt(11);
        long places = switch (random.nextInt(4)) {
            case 0 -> random.nextLong();
            case 1 -> 1L << random.nextInt(60) ^ 1L << random.nextInt(54) ^ 1L << random.nextInt(54);
            default -> Checks.turning(likelyBlock(at), wildBlock());
        };
        both("fault " + at + " " + places, x -> x.fault(at, places),
                () -> model.faults[at] = places & Checks.ALL_PLACES);
    }

    /** A block that the one at this place of the faults may well get next. */
    private int likelyBlock(int at) {
        if (at >= 0 && at < 3) {
            for (int m = 0; m < 8; m++) {
                Model.Mob mob = model.mobs[m];
                if (mob.cell == at && mob.kind != 0 && mob.wait == 0) {
                    int frame = (model.time + 3) / 4;
                    int rest = mob.kind == 1 ? Checks.mix(mob.own, frame) % 512 : mob.msgRest;
                    return Checks.block(mob.kind, m, mob.msgGroup, mob.msgLevel, rest);
                }
            }
            return 1 << 19;
        }
        int m = at - 3;
        int cell = m >= 0 && m < 8 ? model.mobs[m].cell : -1;
        int said = cell >= 0 ? model.saying(cell, 0) : -1;
        return said >= 0 ? said : Checks.block(Checks.TAKEN, random.nextInt(8), 0, 0, 0);
    }

    private int wildBlock() {
        int[] kinds = {1, 2, 2, 3, 8, 8, 9, 9, 9, 10, 11, 15};
        return Checks.block(kinds[random.nextInt(kinds.length)], random.nextInt(8), random.nextInt(4),
                random.nextInt(4), random.nextInt(512));
    }
}
