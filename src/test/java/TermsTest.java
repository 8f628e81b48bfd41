import java.util.Random;

/**
 * The document's chapter "Terms" at its edges, in its order: bits that are cut or left out, the least and the highest
 * numbers, none, just one, too many. Above each test stand the document's words that it holds.
 */
public final class TermsTest {
    private static final Checks C = new Checks("TermsTest");
    private static final int NONE = Checks.NONE;

    public static void main(String[] args) {
        checkIsCutToTwelveBits();
        eachBitOfTheCheckCounts();
        wordEndsWithFourBits0();
        bitsBeforeTheFirstAre0();
        placesGoRound();
        colourRowsGoRound();
        leastOfSeveral();
        mixGoesRound();
        keysAndFramesOfRegister();
        lowestAndHighestNumbers();
        blocksFromMobiles();
        blocksFromCells();
        controlInSlot0Alone();
        noneOneOrMoreSend();
        oneThatWaitsDoesNotSend();
        kindsOneToThree();
        takenAheadOfAll();
        fullCellLeavesOutTheLast();
        cellSpeaksToNobody();
        cellSpeaksInItsCellAlone();
        silentCell();
        fifthTryIsTheLast();
        drawOrOneWithout();
        channelZeroIsNone();
        noTalkerNoBurst();
        callOnAnotherChannel();
        listenersOfThatChannel();
        faultIsForOneBurst();
        C.end();
    }

    /** "a register of 12 bits is 4095 at first; ... each time its lowest 12 bits" */
    private static void checkIsCutToTwelveBits() {
        TrunkCells x = new TrunkCells();
        for (int block : new int[] {0, 1, 1 << 19, 0xFFF00, 0x000FF, (1 << 20) - 1}) {
            isWord(x, block);
        }
        for (int bit = 0; bit < 20; bit++) {
            isWord(x, 1 << bit);
        }
    }

    private static void isWord(TrunkCells x, int block) {
        long word = (long) block << 16 | (long) dividedCheck(block) << 4;
        C.due("word of " + block, x.coded(block, 3), ModelCode.codedRow(word, 3));
    }

    /** The check by long division: what is left of the block and twelve bits 0, its first twelve bits turned about. */
    private static int dividedCheck(int block) {
        long left = ((long) block ^ 0xFFF00L) << 12;
        for (int bit = 31; bit >= 12; bit--) {
            if ((left >>> bit & 1) == 1) {
                left ^= (4096L | 2063L) << bit - 12;
            }
        }
        return (int) left;
    }

    /** "if the next 12 are the block's check; else it is LOST" */
    private static void eachBitOfTheCheckCounts() {
        TrunkCells x = new TrunkCells();
        for (int block : new int[] {0, 74565, (1 << 20) - 1}) {
            long word = (long) block << 16 | ModelCode.check(block) << 4;
            C.due("decoded", x.decoded(ModelCode.codedRow(word, 6), 6), block);
            for (int bit = 4; bit < 16; bit++) {
                long burst = ModelCode.codedRow(word ^ 1L << bit, 6);
                C.due("with bit " + bit + " of the word turned", x.decoded(burst, 6), NONE);
                C.due("its distance", x.distance(burst, 6), 0);
            }
        }
    }

    /** "of all 36-bit rows that end with four bits 0" */
    private static void wordEndsWithFourBits0() {
        TrunkCells x = new TrunkCells();
        for (int tail = 1; tail < 16; tail++) {
            long burst = ModelCode.codedRow((long) 99 << 16 | ModelCode.check(99) << 4 | tail, 1);
            int due = ModelCode.distance(burst, 1);
            C.due("a tail " + tail + " is not found", due > 0 ? 1 : 0, 1);
            C.due("distance", x.distance(burst, 1), due);
            C.due("decoded", x.decoded(burst, 1), ModelCode.decoded(burst, 1));
        }
    }

    /** "d1, d2, d3, d4 the bits before it (d1 the latest; 0 where there is none)" */
    private static void bitsBeforeTheFirstAre0() {
        TrunkCells x = new TrunkCells();
        // Bits 0 and 1 of the 72 come of the first bit alone, bit 2 (first sum) of the second alone.
        long unlike = x.coded(0, 4) ^ x.coded(1 << 19, 4);
        C.dueRow("the first bit 1: bits 0, 1 and 2", i -> unlike >>> 17 * i & 1, 1, 1, 0);
        long other = x.coded(0, 4) ^ x.coded(1 << 18, 4);
        C.dueRow("the second bit 1: bits 0, 1 and 2", i -> other >>> 17 * i & 1, 0, 0, 1);
        for (int colour = 0; colour < 8; colour++) {
            long plain = x.coded(0, colour) ^ row(9 * colour + 1);
            C.dueRow("twenty bits 0, of which nothing comes", i -> plain >>> 17 * i % 54 & 1, new int[30]);
        }
    }

    /** "bit i of the 54 that stay goes to place 17 * i modulo 54" */
    private static void placesGoRound() {
        TrunkCells x = new TrunkCells();
        // The first of a block's bits that is 1 is the first to make sums 1, at the first place of its own.
        for (int bit = 0; bit < 20; bit++) {
            long unlike = x.coded(0, 0) ^ x.coded(1 << 19 - bit, 0);
            int own = bit / 2 * 3 + bit % 2 * 2;
            for (int i = 0; i <= own; i++) {
                C.due("bit " + bit + " at " + i, unlike >>> 17 * i % 54 & 1, i == own ? 1 : 0);
            }
        }
    }

    private static long row(int atFirst) {
        int register = atFirst;
        long row = 0;
        for (int j = 0; j < 54; j++) {
            row += (register % 2L) * (1L << j);
            boolean unlike = register % 2 != register / 8 % 2;
            register = register / 2 + (unlike ? 64 : 0);
        }
        return row;
    }

    /** "a register of 7 bits, at first 9 * colour + 1, gives its lowest bit, and becomes half of it (cut), plus 64" */
    private static void colourRowsGoRound() {
        TrunkCells x = new TrunkCells();
        C.dueRow("colour 0 begins with", j -> (x.coded(0, 0) ^ x.coded(0, 7)) >>> j & 1, 1, 0, 0, 0, 0, 0, 1);
        for (int colour = 0; colour < 8; colour++) {
            for (int block : new int[] {0, 12345, (1 << 20) - 1}) {
                C.due("colour " + colour, x.coded(block, colour) ^ x.coded(block, 0), row(9 * colour + 1) ^ row(1));
            }
        }
    }

    /** "the one whose burst is unlike them at the fewest places (of several the least as a number)" */
    private static void leastOfSeveral() {
        TrunkCells x = new TrunkCells();
        Random random = new Random(21);
        int found = 0;
        int lost = 0;
        for (int i = 0; i < 200; i++) {
            // Half the way from a word to a row that is near it: both are unlike at as many places.
            int block = random.nextInt(1 << 20);
            long word = (long) block << 16 | ModelCode.check(block) << 4;
            long other = word ^ (1L + 2 * random.nextInt(16)) << 10 + random.nextInt(20);
            long burst = halfWay(ModelCode.codedRow(word, 2), ModelCode.codedRow(other, 2), random);
            int due = ModelCode.decoded(burst, 2);
            C.due("decoded", x.decoded(burst, 2), due);
            C.due("distance", x.distance(burst, 2), ModelCode.distance(burst, 2));
            found += due == block && word < other ? 1 : 0;
            lost += due != block && word > other ? 1 : 0;
        }
        C.due("the word was the least of several", found > 5 ? 1 : 0, 1);
        C.due("the word was not the least", lost > 5 ? 1 : 0, 1);
    }

    private static long halfWay(long from, long to, Random random) {
        long burst = from;
        int turns = Long.bitCount(from ^ to) / 2;
        while (Long.bitCount(burst ^ from) < turns) {
            long place = 1L << random.nextInt(54);
            if (((burst ^ to) & place) != 0) {
                burst ^= place;
            }
        }
        return burst;
    }

    /** "modulo 2 to the 32nd, three times; then bits 8 to 30 of x", seen in what one hears with another's key */
    private static void mixGoesRound() {
        int[] keys = {0, 1, -1, Integer.MIN_VALUE, Integer.MAX_VALUE, 123456789};
        for (int talkersKey : keys) {
            for (int listenersKey : keys) {
                TrunkCells x = Checks.withMobilesIn(0, NONE);
                x.move(1, 0);
                x.move(2, 0);
                x.member(0, 1);
                x.member(1, 8);
                x.group(0, talkersKey);
                x.group(3, listenersKey);
                x.speak(0, 54321);
                x.press(0, 0, 0);
                x.tick(8);
                Checks.hears(x, 2, 1, Checks.block(Checks.GRANT, 0, 3, 1, 0));
                int frame = x.tick(1) / 4;
                int unlike = Checks.mix(talkersKey, frame) ^ Checks.mix(listenersKey, frame);
                C.due("heard of " + talkersKey + " with " + listenersKey, x.mobile(1, 9),
                        (54321 ^ unlike) % (1 << 19));
            }
        }
    }

    /** "REST: the lowest 9 bits of MIX(key, frame)": whatever the key, and in late frames */
    private static void keysAndFramesOfRegister() {
        for (int key : new int[] {0, 1, -1, Integer.MIN_VALUE, Integer.MAX_VALUE, 987654321}) {
            TrunkCells x = new TrunkCells();
            x.keys(5, key, 7);
            int cell = 0;
            x.move(5, cell);
            for (int frame : new int[] {0, 1, 2, 50, 51, 1000}) {
                while (x.tick(0) < 4 * frame) {
                    x.tick(Math.min(200, 4 * frame - x.tick(0)));
                }
                x.register(5);
                int sent = Checks.block(Checks.REGISTER, 5, 0, 0, Checks.mix(key, frame) % 512);
                int right = Checks.block(Checks.REGISTER, 5, 0, 0, Checks.mix(7, frame) % 512);
                x.fault(cell, Checks.turning(sent, right));
                x.tick(1);
                C.due("key " + key + " frame " + frame, x.mobile(5, 13), cell);
                cell = (cell + 1) % 3;
                x.move(5, cell);
            }
        }
    }

    /** "MOBILES 0 .. 7; GROUPS 0 .. 3. A mobile is in a CELL 0 .. 2" */
    private static void lowestAndHighestNumbers() {
        for (int high = 0; high < 2; high++) {
            int talker = 7 * high;
            int listener = high == 1 ? 6 : 1;
            int group = 3 * high;
            int cell = 2 * high;
            TrunkCells x = new TrunkCells();
            for (int m : new int[] {talker, listener}) {
                x.member(m, 1 << group);
                x.move(m, cell);
                x.register(m);
                x.tick(4);
                C.due("registered", x.mobile(m, 13), cell);
            }
            x.speak(talker, 3333);
            x.press(talker, group, 3 * high);
            x.tick(8);
            C.dueRow("talker", what -> x.mobile(talker, what), cell, 1, 1, group, group);
            C.dueRow("listener", what -> x.mobile(listener, what), cell, 2, 1, group, NONE);
            C.due("heard", x.mobile(listener, 9), 3333);
            C.dueRow("call", what -> x.call(group, what), 1, talker, 2, 0);
        }
    }

    /** Turns what a mobile is due to send into DATA of mobile 0 for itself: only then it comes out as told. */
    private static void isSent(TrunkCells x, int cell, int sent) {
        x.fault(cell, Checks.turning(sent, Checks.block(Checks.DATA, 0, 0, 0, 341)));
        x.tick(1);
        C.due("sent was " + sent, x.saying(cell, 0), Checks.block(Checks.DATA_DOWN, 0, 0, 0, 341));
    }

    private static TrunkCells withMobile0(int cell, int mobile) {
        TrunkCells x = new TrunkCells();
        x.move(0, cell);
        x.register(0);
        x.tick(4);
        x.move(0, NONE);
        x.move(mobile, cell);
        return x;
    }

    /** "KIND (4 bits, the highest ones), MOBILE (3), GROUP (2), LEVEL (2), REST (9). From mobiles ..." */
    private static void blocksFromMobiles() {
        for (int mobile : new int[] {1, 2, 4, 7}) {
            int cell = mobile % 3;
            TrunkCells x = withMobile0(cell, mobile);
            x.keys(mobile, 31 * mobile, 0);
            x.register(mobile);
            isSent(x, cell, Checks.block(Checks.REGISTER, mobile, 0, 0, Checks.mix(31 * mobile, 1) % 512));
            for (int i = 0; i < 16; i++) {
                TrunkCells y = withMobile0(cell, mobile);
                y.press(mobile, i / 4, i % 4);
                isSent(y, cell, Checks.block(Checks.REQUEST, mobile, i / 4, i % 4, 0));
            }
            for (int to = 0; to < 8; to++) {
                TrunkCells y = withMobile0(cell, mobile);
                y.send(mobile, to, 511 - to);
                isSent(y, cell, Checks.block(Checks.DATA, mobile, to / 4, to % 4, 511 - to));
            }
        }
    }

    /** "From cells: 8 TAKEN (MOBILE; the others 0), 9 GRANT ..., 10 CEASE ..., 11 DATA ..." */
    private static void blocksFromCells() {
        for (int mobile = 0; mobile < 8; mobile++) {
            TrunkCells x = new TrunkCells();
            x.move(mobile, 1);
            x.register(mobile);
            x.fault(3 + mobile, Checks.turning(Checks.block(Checks.TAKEN, mobile, 0, 0, 0),
                    Checks.block(Checks.DATA_DOWN, mobile, 2, 1, 341)));
            x.tick(1);
            C.due("TAKEN for " + mobile, x.mobile(mobile, 11), 16 * 341 + 9);
        }
        // Three calls: mobile 7's of group 3 is the last and has channel 3.
        TrunkCells x = Checks.withMobilesIn(0, NONE, NONE, NONE, NONE, NONE, 0, 0);
        int[] talkers = {0, 6, 7};
        for (int i = 0; i < 3; i++) {
            x.member(talkers[i], 1 << i + 1);
            x.press(talkers[i], i + 1, 3);
            x.tick(1);
            C.due("GRANT", x.saying(0, 0), Checks.block(Checks.GRANT, talkers[i], i + 1, i + 1, 0));
            x.tick(7);
        }
        x.release(7);
        x.tick(4);
        C.due("CEASE", x.saying(0, 0), Checks.block(Checks.CEASE, 0, 3, 3, 0));
        x.tick(4);
        x.send(7, 7, 511);
        x.tick(1);
        C.due("DATA", x.saying(0, 0), Checks.block(Checks.DATA_DOWN, 7, 1, 3, 511));
    }

    /** "In slot 0 of a frame (time modulo 4), CONTROL" */
    private static void controlInSlot0Alone() {
        for (int before = 0; before < 9; before++) {
            TrunkCells x = new TrunkCells();
            x.tick(before);
            x.move(0, 0);
            x.register(0);
            for (int time = before; x.mobile(0, 5) != 0 && time < 20; time++) {
                x.tick(1);
                C.due("in slot " + time, x.mobile(0, 5), time % 4 == 0 ? 0 : 1);
            }
        }
    }

    /** "If just one sends, the cell gets its burst" */
    private static void noneOneOrMoreSend() {
        for (int senders = 0; senders <= 8; senders++) {
            TrunkCells x = new TrunkCells();
            for (int m = 0; m < senders; m++) {
                x.move(m, 0);
                x.register(m);
            }
            x.tick(4);
            for (int m = 0; m < 8; m++) {
                C.due(senders + " send: place of " + m, x.mobile(m, 13), senders == 1 && m == 0 ? 0 : NONE);
                C.due(senders + " send: tries of " + m, x.mobile(m, 6), senders > 1 && m < senders ? 1 : 0);
            }
        }
    }

    /** "whose wait is 0 SEND it ...; the others' waits become 1 less" */
    private static void oneThatWaitsDoesNotSend() {
        TrunkCells x = new TrunkCells();
        for (int m = 0; m < 3; m++) {
            x.move(m, 2);
            x.register(m);
            x.draw(m, m);
        }
        x.tick(4);
        C.dueRow("waits", m -> x.mobile(m, 7), 0, 1, 2);
        x.tick(4);
        C.dueRow("0 was alone", m -> x.mobile(m, 13), 2, NONE, NONE);
        C.dueRow("waits", m -> x.mobile(m, 7), 0, 0, 1);
        C.dueRow("tries", m -> x.mobile(m, 6), 0, 1, 1);
        x.move(0, 2);
        x.tick(4);
        C.dueRow("1 was alone", m -> x.mobile(m, 13), 2, 2, NONE);
        x.tick(4);
        C.dueRow("2 was alone", m -> x.mobile(m, 13), 2, 2, 2);
    }

    /** "If it is not lost, and its kind is 1 to 3" */
    private static void kindsOneToThree() {
        for (int kind = 0; kind < 16; kind++) {
            TrunkCells x = Checks.withMobilesIn(0);
            x.member(0, 1);
            x.send(0, 0, 0);
            x.fault(0, Checks.turning(Checks.block(Checks.DATA, 0, 0, 0, 0), Checks.block(kind, 0, 0, 0, 0)));
            x.tick(1);
            boolean isTaken = kind >= 1 && kind <= 3;
            C.dueRow("kind " + kind, i -> x.mobile(0, 5 + i), isTaken ? 0 : 3, isTaken ? 0 : 1, isTaken ? 0 : 1);
            C.due("a call by kind " + kind, x.call(0, 1), kind == 2 ? 0 : NONE);
            boolean isToSay = kind == 2 || kind == 3;
            C.due("to say by kind " + kind, x.saying(0, 0) == NONE ? 0 : 1, isToSay ? 1 : 0);
        }
    }

    /** Cell 0 has some DATA to say, numbered from 0 on, of mobile 1 in cell 1 for mobile 0, which is off. */
    private static TrunkCells withToSay(int count) {
        TrunkCells x = Checks.withMobilesIn(0, 1, 0);
        for (int i = 0; i < count; i++) {
            // Mobile 2's TAKEN goes ahead in cell 0, so that all the others stay.
            x.send(2, 7, 0);
            x.send(1, 0, i);
            x.tick(4);
        }
        x.move(0, NONE);
        return x;
    }

    private static int dataToSay(int number) {
        return Checks.block(Checks.DATA_DOWN, 0, 0, 1, number);
    }

    /** "TAKEN for its MOBILE is put ahead of all that the cell has to say" */
    private static void takenAheadOfAll() {
        for (int count = 0; count <= 8; count++) {
            TrunkCells x = withToSay(count);
            C.due("the last one", x.saying(0, count - 1), count == 0 ? NONE : dataToSay(count - 1));
            C.due("no more", x.saying(0, count), NONE);
            x.register(2);
            x.tick(1);
            C.due("TAKEN was said ahead of " + count, x.mobile(2, 5), 0);
            int left = Math.min(count, 7);
            for (int k = 0; k < left; k++) {
                C.due("still to say", x.saying(0, k), dataToSay(k));
            }
            C.due("no more", x.saying(0, left), NONE);
        }
    }

    /** "(at most 8; what is more is left out, the last ones)" */
    private static void fullCellLeavesOutTheLast() {
        TrunkCells x = withToSay(8);
        x.member(2, 1);
        x.press(2, 0, 0);
        x.tick(1);
        C.due("the call has begun", x.call(0, 1), 2);
        C.due("GRANT is left out, and what TAKEN has put out", x.saying(0, 7), NONE);
        C.due("the last one", x.saying(0, 6), dataToSay(6));
        x.tick(8 * 4);
        C.due("nothing left", x.saying(0, 0), NONE);
        C.due("2 has heard of no GRANT", x.mobile(2, 1), 0);
        TrunkCells y = withToSay(10);
        C.due("eight", y.saying(0, 7), dataToSay(9));
        C.due("8 was put out when there was no room", y.saying(0, 6), dataToSay(6));
        C.due("no ninth", y.saying(0, 8), NONE);
    }

    /** "its first one is sent; each mobile in the cell ... gets the burst": sent it is, though nobody be there */
    private static void cellSpeaksToNobody() {
        TrunkCells x = withToSay(3);
        x.move(2, 2);
        for (int left = 3; left >= 0; left--) {
            C.due("left to say", x.saying(0, 0), left == 0 ? NONE : dataToSay(3 - left));
            C.due("no more", x.saying(0, left), NONE);
            x.tick(4);
        }
        x.move(0, 0);
        x.tick(8);
        C.due("it came too late", x.mobile(0, 10), 0);
    }

    /** "each mobile in the cell, from 0 on, gets the burst" */
    private static void cellSpeaksInItsCellAlone() {
        TrunkCells x = Checks.withMobilesIn(0, 1, 1, 2);
        for (int m = 0; m < 4; m++) {
            x.member(m, 1);
        }
        x.member(0, 0);
        x.member(3, 0);
        x.press(1, 0, 0);
        x.tick(4);
        x.member(0, 1);
        x.member(3, 1);
        x.tick(4);
        C.dueRow("only those in cell 1 know of the call", m -> x.mobile(m, 1), 0, 1, 2, 0);
    }

    /** "If the cell has something to say": if it has not, no mobile gets a burst, and faults are kept */
    private static void silentCell() {
        TrunkCells x = Checks.withMobilesIn(0, 0);
        x.fault(3, Checks.ALL_PLACES);
        x.tick(40);
        x.register(0);
        x.tick(4);
        C.dueRow("TAKEN is lost then", i -> x.mobile(0, 5 + i), Checks.REGISTER, 1, 1);
    }

    /** "its tries become one more; at 5 the message is gone (it may press on)" */
    private static void fifthTryIsTheLast() {
        for (int kind = 1; kind <= 3; kind++) {
            TrunkCells x = new TrunkCells();
            x.move(0, 0);
            if (kind == Checks.REGISTER) {
                x.register(0);
            } else if (kind == Checks.REQUEST) {
                x.press(0, 3, 0);
            } else {
                x.send(0, 1, 0);
            }
            for (int tries = 1; tries <= 5; tries++) {
                x.fault(0, Checks.ALL_PLACES);
                x.tick(4);
                C.dueRow("try " + tries, i -> x.mobile(0, 5 + i), tries < 5 ? kind : 0, tries % 5, tries < 5 ? 1 : 0);
                x.tick(4);
            }
            C.due("presses on", x.mobile(0, 4), kind == Checks.REQUEST ? 3 : NONE);
            x.tick(40);
            C.due("not sent any more", x.mobile(0, 13), NONE);
        }
    }

    /** "else its wait is its first draw (which is gone then), or 1 without" */
    private static void drawOrOneWithout() {
        TrunkCells x = new TrunkCells();
        x.move(0, 0);
        x.draw(0, 0);
        x.draw(0, 2);
        x.register(0);
        int[] waits = {0, 2, 1, 1};
        for (int i = 0; i < 4; i++) {
            x.fault(0, Checks.ALL_PLACES);
            x.tick(4);
            C.due("wait", x.mobile(0, 7), waits[i]);
            C.due("draws", x.mobile(0, 12), Math.max(0, 1 - i));
            x.tick(4 * waits[i]);
        }
    }

    /** "In slot s 1 .. 3: if a mobile is talking on channel s": by a wrong GRANT there may be a channel 0 */
    private static void channelZeroIsNone() {
        for (int channel = 0; channel < 4; channel++) {
            TrunkCells x = new TrunkCells();
            x.move(0, 0);
            x.move(1, 0);
            x.member(0, 1);
            x.press(0, 0, 0);
            x.tick(4);
            Checks.hears(x, 1, 0, Checks.block(Checks.GRANT, 0, 0, channel, 0));
            C.dueRow("talks", i -> x.mobile(0, 1 + i), 1, channel, 0, 0);
            x.release(0);
            for (int slot = 1; slot <= 4; slot++) {
                x.tick(1);
                boolean hasSent = channel != 0 && slot >= channel;
                C.due("in slot " + slot + " on channel " + channel, x.mobile(0, 1), hasSent ? 0 : 1);
            }
            x.tick(40);
            C.due("on channel " + channel, x.mobile(0, 1), channel == 0 ? 1 : 0);
        }
    }

    /** "if a mobile is talking on channel s": if none is, the cell gets nothing, and its fault is kept */
    private static void noTalkerNoBurst() {
        TrunkCells x = Checks.withMobilesIn(0);
        x.member(0, 1);
        x.press(0, 0, 0);
        x.tick(4);
        x.tick(1);
        x.fault(0, Checks.ALL_PLACES);
        x.move(0, 0);
        x.tick(7);
        C.due("the call goes on without a talker", x.call(0, 1), 0);
        x.register(0);
        x.tick(4);
        C.due("lost by the fault", x.mobile(0, 6), 1);
    }

    /** "and a call is on channel s" */
    private static void callOnAnotherChannel() {
        for (int channel = 1; channel < 4; channel++) {
            TrunkCells x = Checks.withMobilesIn(0);
            x.move(1, 0);
            x.move(2, 0);
            x.member(0, 1);
            x.member(1, 2);
            x.press(0, 0, 0);
            x.tick(8);
            C.due("a call on channel 1", x.call(0, 0), 1);
            x.press(1, 1, 0);
            x.tick(4);
            x.move(0, 0);
            Checks.hears(x, 2, 1, Checks.block(Checks.GRANT, 1, 1, channel, 0));
            x.release(1);
            x.tick(3);
            C.due("1 has let go of channel " + channel, x.mobile(1, 1), 0);
            C.due("of channel " + channel + ", whoever's it was", x.call(0, 1), channel == 1 ? NONE : 0);
        }
    }

    /** "each mobile that is listening on channel s gets it" */
    private static void listenersOfThatChannel() {
        for (int channel = 0; channel < 4; channel++) {
            TrunkCells x = Checks.withMobilesIn(0);
            x.move(1, 0);
            x.move(2, 0);
            x.member(0, 1);
            x.press(0, 0, 0);
            x.speak(0, 99);
            x.tick(8);
            x.member(1, 1);
            Checks.hears(x, 2, 1, Checks.block(Checks.GRANT, 0, 0, channel, 0));
            C.dueRow("listens", i -> x.mobile(1, 1 + i), 2, channel, 0);
            x.tick(3);
            C.due("heard on channel " + channel, x.mobile(1, 8), channel == 1 ? 1 : 0);
        }
    }

    /** "places at which the next burst it gets is turned about; then it is 0" */
    private static void faultIsForOneBurst() {
        TrunkCells x = Checks.withMobilesIn(0, 1);
        x.member(0, 1);
        x.member(1, 1);
        x.speak(0, 42);
        x.press(0, 0, 0);
        x.tick(9);
        int heard = x.mobile(1, 8);
        x.fault(0, Checks.ALL_PLACES);
        x.tick(4);
        C.due("lost by the cell", x.mobile(1, 8), heard);
        x.tick(4);
        C.due("and no more", x.mobile(1, 8), heard + 1);
        x.fault(4, Checks.ALL_PLACES);
        x.tick(4);
        C.due("lost by the mobile", x.mobile(1, 8), heard + 1);
        x.tick(4);
        C.due("and no more", x.mobile(1, 8), heard + 2);
    }
}
