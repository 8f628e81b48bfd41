import java.util.ArrayDeque;
import java.util.ArrayList;
import java.util.Deque;
import java.util.List;

/** The document once more, in its own order and with the library's lists, to hold the program against. */
final class Model implements Checks.Answers {
    static final class Mob {
        int cell = -1, own, known, groups, state, channel = -1, group = -1, press = -1, speech;
        int kind, msgGroup, msgLevel, msgRest, tries, wait, heard, lastHeard = -1, got, lastGot = -1, at = -1;
        boolean sent;
        final Deque<Integer> draws = new ArrayDeque<>();

        void idle() {
            state = 0;
            channel = -1;
            group = -1;
        }

        void message(int newKind, int group, int level, int rest) {
            kind = newKind;
            msgGroup = group;
            msgLevel = level;
            msgRest = rest;
            tries = 0;
            wait = 0;
        }
    }

    static final class Grp {
        int key, channel = -1, holder = -1, since = -1;
        final List<int[]> row = new ArrayList<>();
    }

    final Mob[] mobs = new Mob[8];
    final Grp[] grps = new Grp[4];
    final List<List<Integer>> says = new ArrayList<>();
    final long[] faults = new long[11];
    int time;

    Model() {
        for (int i = 0; i < 8; i++) {
            mobs[i] = new Mob();
        }
        for (int i = 0; i < 4; i++) {
            grps[i] = new Grp();
        }
        for (int i = 0; i < 3; i++) {
            says.add(new ArrayList<>());
        }
    }

    void keys(int m, int own, int known) {
        mobs[m].own = own;
        mobs[m].known = known;
    }

    void move(int m, int cell) {
        if (cell < -1 || cell > 2) {
            throw new IndexOutOfBoundsException();
        }
        mobs[m].cell = cell;
        mobs[m].message(0, 0, 0, 0);
        mobs[m].press = -1;
        mobs[m].idle();
    }

    private void mayHaveMessage(int m) {
        if (mobs[m].cell < 0 || mobs[m].kind != 0) {
            throw new IllegalStateException();
        }
    }

    void register(int m) {
        mayHaveMessage(m);
        mobs[m].message(1, 0, 0, 0);
    }

    void press(int m, int group, int priority) {
        Grp there = grps[group];
        mayHaveMessage(m);
        if (mobs[m].press >= 0 || there == null) {
            throw new IllegalStateException();
        }
        mobs[m].press = group;
        mobs[m].message(2, group, priority & 3, 0);
    }

    void release(int m) {
        mobs[m].press = -1;
        if (mobs[m].kind == 2) {
            mobs[m].message(0, 0, 0, 0);
        }
    }

    void send(int m, int to, int data) {
        Mob there = mobs[to];
        mayHaveMessage(m);
        mobs[m].message(3, to / 4, to % 4, there == null ? 0 : data & 511);
    }

    void draw(int m, int draw) {
        Deque<Integer> draws = mobs[m].draws;
        if (draw < 0 || draw > 15) {
            throw new IllegalArgumentException();
        }
        if (draws.size() == 8) {
            throw new IllegalStateException();
        }
        draws.add(draw);
    }

    int tick(int n) {
        if (n < 0 || n > 200) {
            throw new IllegalArgumentException();
        }
        for (int i = 0; i < n; i++) {
            if (time % 4 == 0) {
                control(0);
                control(1);
                control(2);
            } else {
                traffic(time % 4);
            }
            if (time % 4 == 3) {
                for (Grp grp : grps) {
                    if (grp.channel > 0 && time / 4 - grp.since >= 8) {
                        released(grp);
                    }
                }
            }
            time++;
        }
        return time;
    }

    private int arrives(int at, int block, int colour) {
        long burst = ModelCode.coded(block, colour) ^ faults[at];
        faults[at] = 0;
        return ModelCode.decoded(burst, colour);
    }

    private void control(int cell) {
        List<Integer> bursts = new ArrayList<>();
        for (int m = 0; m < 8; m++) {
            Mob mob = mobs[m];
            mob.sent = false;
            if (mob.cell != cell || mob.kind == 0) {
                continue;
            }
            if (mob.wait > 0) {
                mob.wait--;
                continue;
            }
            mob.sent = true;
            int rest = mob.kind == 1 ? Checks.mix(mob.own, time / 4) % 512 : mob.msgRest;
            bursts.add(Checks.block(mob.kind, m, mob.msgGroup, mob.msgLevel, rest));
        }
        if (bursts.size() == 1) {
            int got = arrives(cell, bursts.get(0), cell + 1);
            if (got >= 0 && got / 65536 >= 1 && got / 65536 <= 3) {
                says.get(cell).add(0, Checks.block(8, got / 8192 % 8, 0, 0, 0));
                switched(cell, got);
            }
        }
        cut();
        if (!says.get(cell).isEmpty()) {
            int said = says.get(cell).remove(0);
            for (int m = 0; m < 8; m++) {
                if (mobs[m].cell == cell) {
                    int got = arrives(3 + m, said, cell + 1);
                    if (got >= 0) {
                        decodes(m, got);
                    }
                }
            }
        }
        for (Mob mob : mobs) {
            if (mob.cell == cell && mob.sent && mob.kind != 0) {
                mob.tries++;
                if (mob.tries == 5) {
                    mob.message(0, 0, 0, 0);
                } else {
                    mob.wait = mob.draws.isEmpty() ? 1 : mob.draws.poll();
                }
            }
            mob.sent = false;
        }
    }

    private void cut() {
        for (List<Integer> say : says) {
            while (say.size() > 8) {
                say.remove(say.size() - 1);
            }
        }
    }

    private void switched(int cell, int block) {
        int m = block / 8192 % 8;
        int group = block / 2048 % 4;
        int level = block / 512 % 4;
        int rest = block % 512;
        switch (block / 65536) {
            case 1 -> {
                if (Checks.mix(mobs[m].known, time / 4) % 512 == rest) {
                    mobs[m].at = cell;
                }
            }
            case 2 -> {
                if (mobs[m].at == cell && member(m, group)) {
                    Grp grp = grps[group];
                    boolean waits = grp.row.stream().anyMatch(one -> one[0] == m);
                    if (!waits && grp.holder != m && grp.row.size() < 6) {
                        grp.row.add(new int[] {m, level});
                    }
                    if (grp.channel < 0) {
                        served(grp);
                    }
                }
            }
            default -> {
                int to = 4 * group + level;
                if (mobs[m].at == cell && to < 8 && mobs[to].at >= 0) {
                    says.get(mobs[to].at).add(Checks.block(11, to, m / 4, m % 4, rest));
                }
            }
        }
    }

    private boolean member(int m, int group) {
        return mobs[m].groups / (1 << group) % 2 == 1;
    }

    private void served(Grp grp) {
        int channel = grp.channel;
        for (int c = 3; c >= 1 && grp.channel < 0; c--) {
            boolean free = true;
            for (Grp other : grps) {
                free &= other.channel != c;
            }
            channel = free ? c : channel;
        }
        if (channel < 0 || grp.row.isEmpty()) {
            return;
        }
        int[] next = null;
        for (int priority = 3; priority >= 0 && next == null; priority--) {
            for (int[] one : grp.row) {
                if (one[1] == priority && next == null) {
                    next = one;
                }
            }
        }
        grp.row.remove(next);
        grp.channel = channel;
        grp.holder = next[0];
        grp.since = time / 4;
        told(grp, Checks.block(9, grp.holder, number(grp), channel, 0));
    }

    private int number(Grp grp) {
        return java.util.Arrays.asList(grps).indexOf(grp);
    }

    private void told(Grp grp, int block) {
        for (int cell = 0; cell < 3; cell++) {
            boolean there = false;
            for (int m = 0; m < 8; m++) {
                there |= member(m, number(grp)) && mobs[m].at == cell;
            }
            if (there) {
                says.get(cell).add(block);
            }
        }
        // Only the cell that speaks may hold more for a while, with TAKEN ahead: control() cuts it.
    }

    private void released(Grp grp) {
        if (!grp.row.isEmpty()) {
            served(grp);
        } else {
            int block = Checks.block(10, 0, number(grp), grp.channel, 0);
            grp.channel = -1;
            grp.holder = -1;
            grp.since = -1;
            told(grp, block);
            for (Grp other : grps) {
                if (other.channel < 0) {
                    served(other);
                }
            }
        }
        cut();
    }

    private void decodes(int m, int block) {
        Mob mob = mobs[m];
        boolean itself = block / 8192 % 8 == m;
        int group = block / 2048 % 4;
        int channel = block / 512 % 4;
        switch (block / 65536) {
            case 8 -> {
                if (itself && mob.sent) {
                    mob.message(0, 0, 0, 0);
                }
            }
            case 9 -> {
                if (member(m, group)) {
                    boolean talks = itself && mob.press == group;
                    if (talks || !(mob.state == 1 && mob.group != group)) {
                        mob.state = talks ? 1 : 2;
                        mob.channel = channel;
                        mob.group = group;
                    }
                }
            }
            case 10 -> {
                if (mob.state != 0 && mob.group == group) {
                    mob.idle();
                }
            }
            case 11 -> {
                if (itself) {
                    mob.got++;
                    mob.lastGot = 16 * (block % 512) + 4 * group + channel;
                }
            }
            default -> { }
        }
    }

    private void traffic(int slot) {
        for (Mob mob : mobs) {
            if (mob.state == 1 && mob.channel == slot) {
                int block = mob.speech ^ Checks.mix(grps[mob.group].key, time / 4) % 524288;
                if (mob.press != mob.group) {
                    block = 524288;
                    mob.idle();
                }
                int got = arrives(mob.cell, block, mob.cell + 1);
                for (Grp grp : grps) {
                    if (got >= 0 && grp.channel == slot) {
                        if (got >= 524288) {
                            released(grp);
                        } else {
                            sentOn(slot, got);
                        }
                        return;
                    }
                }
                return;
            }
        }
    }

    private void sentOn(int slot, int block) {
        for (int m = 0; m < 8; m++) {
            Mob mob = mobs[m];
            if (mob.state == 2 && mob.channel == slot) {
                int got = arrives(3 + m, block, mob.cell + 1);
                if (got >= 0) {
                    mob.heard++;
                    mob.lastHeard = got % 524288 ^ Checks.mix(grps[mob.group].key, time / 4) % 524288;
                }
            }
        }
    }

    @Override
    public int mobile(int m, int what) {
        Mob o = mobs[m];
        int[] all = {o.cell, o.state, o.channel, o.group, o.press, o.kind, o.tries, o.wait, o.heard, o.lastHeard,
            o.got, o.lastGot, o.draws.size(), o.at};
        return what < 0 || what >= all.length ? -1 : all[what];
    }

    @Override
    public int call(int group, int what) {
        Grp o = grps[group];
        int[] all = {o.channel, o.holder, o.since, o.row.size()};
        return what < 0 || what >= all.length ? -1 : all[what];
    }

    @Override
    public int waiting(int group, int k) {
        List<int[]> row = grps[group].row;
        return k >= 0 && k < row.size() ? 4 * row.get(k)[0] + row.get(k)[1] : -1;
    }

    @Override
    public int saying(int cell, int k) {
        List<Integer> say = says.get(cell);
        return k >= 0 && k < Math.min(8, say.size()) ? say.get(k) : -1;
    }

    @Override
    public int time() {
        return time;
    }
}
