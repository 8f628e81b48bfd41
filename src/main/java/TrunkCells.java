import java.util.Arrays;

/**
 * Trunked radio: mobiles in three cells send coded bursts in slots, on one control channel by chance and on
 * traffic channels by grant; a switch keeps where they are, who holds the floor and who waits for it.
 */
public final class TrunkCells {
    public static final int NONE = -1;

    private static final int MOBILES = 8;
    private static final int GROUPS = 4;
    private static final int CELLS = 3;
    private static final int CHANNELS = 3;
    private static final int SLOTS = 4;

    private static final int MOST_TRIES = 5;
    private static final int MOST_DRAWS = 8;
    private static final int HIGHEST_DRAW = 15;
    private static final int MOST_SAID = 8;
    private static final int MOST_WAITING = 6;
    private static final int FLOOR_FRAMES = 8;
    private static final int MOST_SLOTS = 200;
    private static final int LAST_TIME = 1000000000;

    private static final int IDLE = 0;
    private static final int TALKING = 1;
    private static final int LISTENING = 2;

    private static final int SPEECH_MASK = (1 << 19) - 1;
    private static final int LETTING_GO = 1 << 19;

    private final Coder coder;
    private final Switchboard board;
    private final Mobile[] mobiles;
    /** The cells' faults come first, the mobiles' behind them, as fault() counts them. */
    private final long[] faults;
    private int time;

    public TrunkCells() {
        coder = new Coder();
        board = new Switchboard();
        mobiles = new Mobile[MOBILES];
        for (int i = 0; i < MOBILES; i++) {
            mobiles[i] = new Mobile(i);
        }
        faults = new long[CELLS + MOBILES];
        time = 0;
    }

    public void keys(int mobile, int own, int known) throws IndexOutOfBoundsException {
        needIndex(mobile, MOBILES);
        mobiles[mobile].key = own;
        board.keys[mobile] = known;
    }

    public void group(int group, int key) throws IndexOutOfBoundsException {
        needIndex(group, GROUPS);
        board.groups[group].key = key;
    }

    public void member(int mobile, int groups) throws IndexOutOfBoundsException {
        needIndex(mobile, MOBILES);
        board.memberships[mobile] = groups & ((1 << GROUPS) - 1);
    }

    public void move(int mobile, int cell) throws IndexOutOfBoundsException {
        needIndex(mobile, MOBILES);
        if (cell != NONE) {
            needIndex(cell, CELLS);
        }
        Mobile mover = mobiles[mobile];
        mover.cell = cell;
        mover.message.drop();
        mover.presses = NONE;
        mover.turnIdle();
    }

    public void register(int mobile) throws IndexOutOfBoundsException, IllegalStateException {
        needIndex(mobile, MOBILES);
        needRoomForMessage(mobiles[mobile]);
        // REST hangs on the frame in which it is sent, so it is filled in only then.
        mobiles[mobile].message.put(Block.of(Block.REGISTER, mobile, 0, 0, 0));
    }

    public void press(int mobile, int group, int priority) throws IndexOutOfBoundsException, IllegalStateException {
        needIndex(mobile, MOBILES);
        needIndex(group, GROUPS);
        needRoomForMessage(mobiles[mobile]);
        if (mobiles[mobile].presses != NONE) {
            throw new IllegalStateException("it presses for a group");
        }
        mobiles[mobile].presses = group;
        mobiles[mobile].message.put(Block.of(Block.REQUEST, mobile, group, priority, 0));
    }

    public void release(int mobile) throws IndexOutOfBoundsException {
        needIndex(mobile, MOBILES);
        mobiles[mobile].presses = NONE;
        if (mobiles[mobile].message.kind() == Block.REQUEST) {
            mobiles[mobile].message.drop();
        }
    }

    public void send(int mobile, int to, int data) throws IndexOutOfBoundsException, IllegalStateException {
        needIndex(mobile, MOBILES);
        needIndex(to, MOBILES);
        needRoomForMessage(mobiles[mobile]);
        mobiles[mobile].message.put(Block.ofData(Block.DATA_UP, mobile, to, data));
    }

    public void speak(int mobile, int speech) throws IndexOutOfBoundsException {
        needIndex(mobile, MOBILES);
        mobiles[mobile].speech = speech & SPEECH_MASK;
    }

    public void draw(int mobile, int draw)
            throws IndexOutOfBoundsException, IllegalArgumentException, IllegalStateException {
        needIndex(mobile, MOBILES);
        if (draw < 0 || draw > HIGHEST_DRAW) {
            throw new IllegalArgumentException("a draw is 0 to 15");
        }
        if (!mobiles[mobile].addDraw(draw)) {
            throw new IllegalStateException("it has 8 draws");
        }
    }

    public void fault(int at, long places) throws IndexOutOfBoundsException {
        needIndex(at, CELLS + MOBILES);
        faults[at] = places & Coder.BURST_MASK;
    }

    public int tick(int n) throws IllegalArgumentException {
        if (n < 0 || n > MOST_SLOTS || n > LAST_TIME - time) {
            throw new IllegalArgumentException("n is not 0 to 200, or the time would be too late");
        }
        for (int i = 0; i < n; i++) {
            int slot = time % SLOTS;
            int frame = time / SLOTS;
            if (slot == 0) {
                runControl(frame);
            } else {
                runTraffic(slot, frame);
            }
            if (slot == SLOTS - 1) {
                board.endLongTurns(frame);
            }
            time++;
        }
        return time;
    }

    public int mobile(int mobile, int what) {
        if (!isIndex(mobile, MOBILES)) {
            return NONE;
        }
        return what == 13 ? board.places[mobile] : mobiles[mobile].tell(what);
    }

    public int call(int group, int what) {
        return isIndex(group, GROUPS) ? board.groups[group].tell(what) : NONE;
    }

    public int waiting(int group, int k) {
        return isIndex(group, GROUPS) ? board.groups[group].rowAt(k) : NONE;
    }

    public int saying(int cell, int k) {
        return isIndex(cell, CELLS) ? board.cells[cell].sayingAt(k) : NONE;
    }

    public long coded(int block, int colour) {
        return coder.burstOf(block, colour);
    }

    public int decoded(long burst, int colour) {
        return coder.blockOf(burst, colour);
    }

    public int distance(long burst, int colour) {
        return Coder.unlikePlaces(coder.nearest(burst, colour));
    }

    private static boolean isIndex(int index, int count) {
        return index >= 0 && index < count;
    }

    private static void needIndex(int index, int count) {
        if (!isIndex(index, count)) {
            throw new IndexOutOfBoundsException("there is none such");
        }
    }

    private static void needRoomForMessage(Mobile mobile) {
        if (mobile.cell == NONE || mobile.message.isThere()) {
            throw new IllegalStateException("it is off or has a message");
        }
    }

    private static int colourOf(int cell) {
        return cell + 1;
    }

    private static int mix(int k, int n) {
        int x = k;
        for (int i = 0; i < 3; i++) {
            x = x * 1103515245 + n + 12345;
        }
        return (x >>> 8) & ((1 << 23) - 1);
    }

    /** What the one at place 'at' of the faults decodes, when a block comes to it in a colour. */
    private int receive(int at, int block, int colour) {
        long turned = faults[at];
        faults[at] = 0;
        if (turned == 0) {
            // Each bit of a word can be told from the first sums alone, which are never left out: no other word
            // has the same burst, so an unhurt one needs no search.
            return block;
        }
        return coder.blockOf(coder.burstOf(block, colour) ^ turned, colour);
    }

    private void runControl(int frame) {
        for (int cell = 0; cell < CELLS; cell++) {
            int sent = sendMessages(cell, frame);
            int got = sent == NONE ? NONE : receive(cell, sent, colourOf(cell));
            if (got != NONE && Block.isFromMobile(got)) {
                board.cells[cell].sayFirst(Block.of(Block.TAKEN, Block.mobileOf(got), 0, 0, 0));
                board.accept(got, cell, frame);
            }
            int said = board.cells[cell].nextToSay();
            if (said != NONE) {
                tellMobiles(cell, said);
            }
            settleMessages(cell);
        }
    }

    /** The block that is sent in a cell; NONE if no mobile sends, or if several do and nothing can be got of it. */
    private int sendMessages(int cell, int frame) {
        int senders = 0;
        int block = NONE;
        for (int i = 0; i < MOBILES; i++) {
            Mobile mobile = mobiles[i];
            if (mobile.cell == cell && mobile.message.isThere() && mobile.message.comesUp()) {
                senders++;
                block = mobile.messageBlock(frame);
            }
        }
        return senders == 1 ? block : NONE;
    }

    private void tellMobiles(int cell, int block) {
        for (int i = 0; i < MOBILES; i++) {
            if (mobiles[i].cell == cell) {
                int got = receive(CELLS + i, block, colourOf(cell));
                if (got != NONE) {
                    mobiles[i].obey(got, board.isMember(i, Block.groupOf(got)));
                }
            }
        }
    }

    private void settleMessages(int cell) {
        for (int i = 0; i < MOBILES; i++) {
            if (mobiles[i].cell == cell) {
                mobiles[i].settleMessage();
            }
        }
    }

    private void runTraffic(int channel, int frame) {
        Mobile talker = talkerOn(channel);
        if (talker == null) {
            return;
        }
        int sent = talker.trafficBlock(mix(board.groups[talker.group].key, frame));
        int got = receive(talker.cell, sent, colourOf(talker.cell));
        int group = board.groupOn(channel);
        if (got == NONE || group == NONE) {
            return;
        }
        if ((got & LETTING_GO) != 0) {
            board.endTurn(group, frame);
        } else {
            sendOn(got, channel, frame);
        }
    }

    private Mobile talkerOn(int channel) {
        for (int i = 0; i < MOBILES; i++) {
            if (mobiles[i].isOn(channel, TALKING)) {
                return mobiles[i];
            }
        }
        return null;
    }

    private void sendOn(int block, int channel, int frame) {
        for (int i = 0; i < MOBILES; i++) {
            Mobile listener = mobiles[i];
            if (listener.isOn(channel, LISTENING)) {
                int got = receive(CELLS + i, block, colourOf(listener.cell));
                if (got != NONE) {
                    listener.hear(got, mix(board.groups[listener.group].key, frame));
                }
            }
        }
    }

    /** How a control block is laid out. */
    private static final class Block {
        static final int REGISTER = 1;
        static final int REQUEST = 2;
        static final int DATA_UP = 3;
        static final int TAKEN = 8;
        static final int GRANT = 9;
        static final int CEASE = 10;
        static final int DATA_DOWN = 11;
        static final int REST_MASK = (1 << 9) - 1;

        static int of(int kind, int mobile, int group, int level, int rest) {
            return kind << 16 | mobile << 13 | group << 11 | (level & 3) << 9 | rest & REST_MASK;
        }

        static int ofData(int kind, int mobile, int other, int data) {
            return of(kind, mobile, other >>> 2, other, data);
        }

        static int kindOf(int block) {
            return (block >>> 16) & 15;
        }

        static int mobileOf(int block) {
            return (block >>> 13) & 7;
        }

        static int groupOf(int block) {
            return (block >>> 11) & 3;
        }

        static int levelOf(int block) {
            return (block >>> 9) & 3;
        }

        /** GROUP * 4 + LEVEL: errors can make it a number that no mobile has. */
        static int otherOf(int block) {
            return (block >>> 9) & 15;
        }

        static int restOf(int block) {
            return block & REST_MASK;
        }

        static boolean isFromMobile(int block) {
            return kindOf(block) >= REGISTER && kindOf(block) <= DATA_UP;
        }
    }

    /** Blocks to bursts and back. */
    private static final class Coder {
        static final int BURST_BITS = 54;
        static final long BURST_MASK = (1L << BURST_BITS) - 1;
        static final int BLOCK_MASK = (1 << 20) - 1;
        static final int WORD_BITS = 36;
        static final int PLACE_STEP = 17;
        static final int COLOURS = 8;
        static final int STATES = 16;
        /** A path's key is its unlike places above its bits: the least key is the nearest word, then the least. */
        static final int KEY_SHIFT = 40;
        /** More unlike places than any path can gather, for the states in which no word begins. */
        static final long NO_PATH = 1000L << KEY_SHIFT;
        /** What two sums that are unlike two others at these bits add to a key. */
        static final long[] UNLIKE = {0L, 1L << KEY_SHIFT, 1L << KEY_SHIFT, 2L << KEY_SHIFT};

        private final long[] colourRows;
        /** For a bit (lowest) and the four before it: the first sum (lowest) and the second. */
        private final int[] sums;
        private final long[] evenKeys;
        private final long[] oddKeys;

        Coder() {
            colourRows = new long[COLOURS];
            for (int i = 0; i < COLOURS; i++) {
                colourRows[i] = colourRow(i);
            }
            sums = new int[2 * STATES];
            for (int i = 0; i < 2 * STATES; i++) {
                // b, d3, d4 are the bits of 25, and b, d1, d2, d4 those of 23.
                sums[i] = (Integer.bitCount(i & 25) & 1) | (Integer.bitCount(i & 23) & 1) << 1;
            }
            evenKeys = new long[STATES];
            oddKeys = new long[STATES];
        }

        private static long colourRow(int colour) {
            int register = 9 * colour + 1;
            long row = 0;
            for (int j = 0; j < BURST_BITS; j++) {
                row |= (long) (register & 1) << j;
                int fed = (register ^ register >>> 3) & 1;
                register = register >>> 1 | fed << 6;
            }
            return row;
        }

        private static int checkOf(int block) {
            int register = 4095;
            for (int i = 19; i >= 0; i--) {
                int unlike = (register >>> 11 ^ block >>> i) & 1;
                register = (register << 1 ^ unlike * 2063) & 4095;
            }
            return register;
        }

        private static long wordOf(int block) {
            return (long) block << 16 | (long) checkOf(block) << 4;
        }

        private static int nextPlace(int place) {
            return (place + PLACE_STEP) % BURST_BITS;
        }

        /** Of every two bits of a word, the second one's second sum is left out. */
        private static boolean hasSecondSum(int i) {
            return (i & 1) == 0;
        }

        long burstOf(int block, int colour) {
            long word = wordOf(block & BLOCK_MASK);
            long burst = colourRows[colour & (COLOURS - 1)];
            int place = 0;
            for (int i = 0; i < WORD_BITS; i++) {
                int pair = sums[(int) (word >>> (WORD_BITS - 1 - i)) & (2 * STATES - 1)];
                burst ^= (long) (pair & 1) << place;
                place = nextPlace(place);
                if (hasSecondSum(i)) {
                    burst ^= (long) (pair >>> 1) << place;
                    place = nextPlace(place);
                }
            }
            return burst;
        }

        int blockOf(long burst, int colour) {
            long word = nearest(burst, colour) & ((1L << WORD_BITS) - 1);
            int block = (int) (word >>> 16);
            return word == wordOf(block) ? block : NONE;
        }

        static int unlikePlaces(long key) {
            return (int) (key >>> KEY_SHIFT);
        }

        /** The key of the nearest row that ends with four bits 0: the best path that ends in state 0. */
        long nearest(long burst, int colour) {
            long plain = burst ^ colourRows[colour & (COLOURS - 1)];
            Arrays.fill(evenKeys, NO_PATH);
            evenKeys[0] = 0;
            int place = 0;
            for (int i = 0; i < WORD_BITS; i += 2) {
                int second = nextPlace(place);
                int third = nextPlace(second);
                int pair = (int) (plain >>> place & 1) | (int) (plain >>> second & 1) << 1;
                stepOn(evenKeys, oddKeys, pair, 3, 1L << (WORD_BITS - 1 - i));
                stepOn(oddKeys, evenKeys, (int) (plain >>> third & 1), 1, 1L << (WORD_BITS - 2 - i));
                place = nextPlace(third);
            }
            return evenKeys[0];
        }

        /** One bit more: 'kept' has the sums that were sent, 'weight' is the bit's in the word. */
        private void stepOn(long[] from, long[] to, int pair, int kept, long weight) {
            for (int state = 0; state < STATES; state++) {
                int before = state >>> 1;
                long after0 = from[before] + UNLIKE[(sums[state] ^ pair) & kept];
                long after1 = from[before + STATES / 2] + UNLIKE[(sums[state + STATES] ^ pair) & kept];
                to[state] = (after0 < after1 ? after0 : after1) + (state & 1) * weight;
            }
        }
    }

    /** What a mobile has to send. */
    private static final class Message {
        private int block;
        private int tries;
        private int delay;
        /** Whether it has been sent in this control slot, and is still there. */
        private boolean sent;

        boolean isThere() {
            return block != 0;
        }

        int kind() {
            return Block.kindOf(block);
        }

        void put(int newBlock) {
            block = newBlock;
            tries = 0;
            delay = 0;
            sent = false;
        }

        void drop() {
            put(0);
        }

        /** Whether it is sent in this slot; else its wait is 1 less. */
        boolean comesUp() {
            sent = delay == 0;
            if (!sent) {
                delay--;
            }
            return sent;
        }
    }

    private static final class Mobile {
        private final int number;
        private final Message message;
        private final int[] draws;
        private int drawCount;
        private int key;
        private int speech;
        private int cell;
        private int presses;
        private int state;
        private int channel;
        private int group;
        private int heardCount;
        private int lastHeard;
        private int dataCount;
        private int lastData;

        Mobile(int itsNumber) {
            number = itsNumber;
            message = new Message();
            draws = new int[MOST_DRAWS];
            cell = NONE;
            presses = NONE;
            state = IDLE;
            channel = NONE;
            group = NONE;
            lastHeard = NONE;
            lastData = NONE;
        }

        void turnIdle() {
            join(IDLE, NONE, NONE);
        }

        private void join(int newState, int newChannel, int newGroup) {
            state = newState;
            channel = newChannel;
            group = newGroup;
        }

        boolean isOn(int aChannel, int aState) {
            return state == aState && channel == aChannel;
        }

        /** Whether there was room for it. */
        boolean addDraw(int draw) {
            if (drawCount >= MOST_DRAWS) {
                return false;
            }
            draws[drawCount] = draw;
            drawCount++;
            return true;
        }

        private int takeDraw() {
            if (drawCount == 0) {
                return 1;
            }
            int first = draws[0];
            drawCount--;
            System.arraycopy(draws, 1, draws, 0, drawCount);
            return first;
        }

        int messageBlock(int frame) {
            return message.kind() == Block.REGISTER
                    ? message.block | mix(key, frame) & Block.REST_MASK : message.block;
        }

        /** After the cell has spoken: a message that was sent and not taken waits for another try. */
        void settleMessage() {
            if (!message.sent) {
                return;
            }
            message.tries++;
            if (message.tries >= MOST_TRIES) {
                message.drop();
            } else {
                message.delay = takeDraw();
            }
        }

        void obey(int block, boolean isMember) {
            boolean isMeant = Block.mobileOf(block) == number;
            switch (Block.kindOf(block)) {
                case Block.TAKEN:
                    if (isMeant && message.sent) {
                        message.drop();
                    }
                    break;
                case Block.GRANT:
                    if (isMember) {
                        followGrant(isMeant, Block.groupOf(block), Block.levelOf(block));
                    }
                    break;
                case Block.CEASE:
                    if (group == Block.groupOf(block)) {
                        turnIdle();
                    }
                    break;
                case Block.DATA_DOWN:
                    if (isMeant) {
                        dataCount++;
                        lastData = 16 * Block.restOf(block) + Block.otherOf(block);
                    }
                    break;
                default:
                    break;
            }
        }

        private void followGrant(boolean isMeant, int itsGroup, int itsChannel) {
            if (isMeant && presses == itsGroup) {
                join(TALKING, itsChannel, itsGroup);
            } else if (state != TALKING || group == itsGroup) {
                join(LISTENING, itsChannel, itsGroup);
            }
        }

        /** What a talking mobile sends; when it presses no more that is the sign of it, and it is idle then. */
        int trafficBlock(int mixed) {
            if (presses != group) {
                turnIdle();
                return LETTING_GO;
            }
            return speech ^ mixed & SPEECH_MASK;
        }

        void hear(int block, int mixed) {
            heardCount++;
            lastHeard = (block ^ mixed) & SPEECH_MASK;
        }

        int tell(int what) {
            switch (what) {
                case 0: return cell;
                case 1: return state;
                case 2: return channel;
                case 3: return group;
                case 4: return presses;
                case 5: return message.kind();
                case 6: return message.tries;
                case 7: return message.delay;
                case 8: return heardCount;
                case 9: return lastHeard;
                case 10: return dataCount;
                case 11: return lastData;
                case 12: return drawCount;
                default: return NONE;
            }
        }
    }

    /** What a cell has to say on its control channel. */
    private static final class Cell {
        private final int[] blocks;
        private int count;

        Cell() {
            blocks = new int[MOST_SAID];
        }

        void sayLast(int block) {
            if (count < MOST_SAID) {
                blocks[count] = block;
                count++;
            }
        }

        void sayFirst(int block) {
            int kept = Math.min(count, MOST_SAID - 1);
            System.arraycopy(blocks, 0, blocks, 1, kept);
            blocks[0] = block;
            count = kept + 1;
        }

        int nextToSay() {
            if (count == 0) {
                return NONE;
            }
            int first = blocks[0];
            count--;
            System.arraycopy(blocks, 1, blocks, 0, count);
            return first;
        }

        int sayingAt(int k) {
            return isIndex(k, count) ? blocks[k] : NONE;
        }
    }

    /** A group's key, its call and the row of those who wait for the floor. */
    private static final class Group {
        private final int[] row;
        private int rowCount;
        private int key;
        private int channel;
        private int holder;
        private int since;

        Group() {
            row = new int[MOST_WAITING];
            endCall();
        }

        private void endCall() {
            channel = NONE;
            holder = NONE;
            since = NONE;
        }

        boolean hasCall() {
            return channel != NONE;
        }

        private boolean isInRow(int mobile) {
            for (int i = 0; i < rowCount; i++) {
                if (row[i] >>> 2 == mobile) {
                    return true;
                }
            }
            return false;
        }

        void joinRow(int mobile, int priority) {
            if (holder != mobile && rowCount < MOST_WAITING && !isInRow(mobile)) {
                row[rowCount] = 4 * mobile + priority;
                rowCount++;
            }
        }

        private int firstOfHighest() {
            int best = 0;
            for (int i = 1; i < rowCount; i++) {
                if ((row[i] & 3) > (row[best] & 3)) {
                    best = i;
                }
            }
            return best;
        }

        /** The next holder leaves the row; only for a row in which somebody is. */
        void giveFloor(int frame) {
            int best = firstOfHighest();
            holder = row[best] >>> 2;
            since = frame;
            rowCount--;
            System.arraycopy(row, best + 1, row, best, rowCount - best);
        }

        int rowAt(int k) {
            return isIndex(k, rowCount) ? row[k] : NONE;
        }

        int tell(int what) {
            switch (what) {
                case 0: return channel;
                case 1: return holder;
                case 2: return since;
                case 3: return rowCount;
                default: return NONE;
            }
        }
    }

    /** The switch: where mobiles are registered, the groups' calls, and what the cells have to say of them. */
    private static final class Switchboard {
        private final int[] keys;
        private final int[] places;
        private final int[] memberships;
        private final Group[] groups;
        private final Cell[] cells;

        Switchboard() {
            keys = new int[MOBILES];
            places = new int[MOBILES];
            memberships = new int[MOBILES];
            Arrays.fill(places, NONE);
            groups = new Group[GROUPS];
            for (int i = 0; i < GROUPS; i++) {
                groups[i] = new Group();
            }
            cells = new Cell[CELLS];
            for (int i = 0; i < CELLS; i++) {
                cells[i] = new Cell();
            }
        }

        boolean isMember(int mobile, int group) {
            return (memberships[mobile] >>> group & 1) != 0;
        }

        /** What comes of a block of kind 1 to 3 that a cell has decoded. */
        void accept(int block, int cell, int frame) {
            int from = Block.mobileOf(block);
            if (Block.kindOf(block) == Block.REGISTER) {
                if (Block.restOf(block) == (mix(keys[from], frame) & Block.REST_MASK)) {
                    places[from] = cell;
                }
            } else if (places[from] == cell) {
                if (Block.kindOf(block) == Block.REQUEST) {
                    acceptRequest(from, Block.groupOf(block), Block.levelOf(block), frame);
                } else {
                    passData(from, Block.otherOf(block), Block.restOf(block));
                }
            }
        }

        private void acceptRequest(int from, int group, int priority, int frame) {
            if (!isMember(from, group)) {
                return;
            }
            groups[group].joinRow(from, priority);
            if (!groups[group].hasCall()) {
                serve(group, frame);
            }
        }

        private void passData(int from, int to, int data) {
            if (to < MOBILES && places[to] != NONE) {
                cells[places[to]].sayLast(Block.ofData(Block.DATA_DOWN, to, from, data));
            }
        }

        private void serve(int group, int frame) {
            Group served = groups[group];
            int channel = served.hasCall() ? served.channel : freeChannel();
            if (served.rowCount == 0 || channel == NONE) {
                return;
            }
            served.channel = channel;
            served.giveFloor(frame);
            sayToMembers(group, Block.of(Block.GRANT, served.holder, group, channel, 0));
        }

        void endTurn(int group, int frame) {
            if (groups[group].rowCount > 0) {
                serve(group, frame);
                return;
            }
            int channel = groups[group].channel;
            groups[group].endCall();
            sayToMembers(group, Block.of(Block.CEASE, 0, group, channel, 0));
            for (int i = 0; i < GROUPS; i++) {
                if (!groups[i].hasCall()) {
                    serve(i, frame);
                }
            }
        }

        void endLongTurns(int frame) {
            for (int i = 0; i < GROUPS; i++) {
                if (groups[i].hasCall() && frame - groups[i].since >= FLOOR_FRAMES) {
                    endTurn(i, frame);
                }
            }
        }

        /** The group whose call is on a channel; NONE if there is none. */
        int groupOn(int channel) {
            for (int i = 0; i < GROUPS; i++) {
                if (groups[i].channel == channel) {
                    return i;
                }
            }
            return NONE;
        }

        private int freeChannel() {
            for (int channel = 1; channel <= CHANNELS; channel++) {
                if (groupOn(channel) == NONE) {
                    return channel;
                }
            }
            return NONE;
        }

        private void sayToMembers(int group, int block) {
            int reached = 0;
            for (int i = 0; i < MOBILES; i++) {
                if (places[i] != NONE && isMember(i, group)) {
                    reached |= 1 << places[i];
                }
            }
            for (int cell = 0; cell < CELLS; cell++) {
                if ((reached >>> cell & 1) != 0) {
                    cells[cell].sayLast(block);
                }
            }
        }
    }
}
