import java.lang.reflect.Field;

/**
 * Promises 1 to 20 at their edges, in the document's order: what is cut to its lowest bits, the least and the most
 * that is taken, what is empty, what is full. Above each test stand the document's words that it holds. What is
 * refused is in RefusalsTest.
 */
public final class EdgesTest {
    private static final Checks C = new Checks("EdgesTest");
    private static final int NONE = Checks.NONE;

    public static void main(String[] args) throws ReflectiveOperationException {
        promise1InNoGroup();
        promise2EachMobileHasItsKeys();
        promise2LaterKeysReplaceEarlierOnes();
        promise4LaterGroupsReplaceEarlierOnes();
        promise4HigherBitsAreNoGroups();
        promise5ToEachCellAndOff();
        promise5WhatStays();
        promise5MessageIsNotSent();
        promise6TriesAndWaitOfANewMessage();
        promise7NoMember();
        promise7LeastAndMost();
        promise8RequestWithTriesAndWait();
        promise8OthersMessagesStay();
        promise9FromEachToEach();
        promise9NineBits();
        promise10NineteenBits();
        promise11LeastAndMost();
        promise11RoomAgainWhenOneIsGone();
        promise12EachHasItsOwn();
        promise12InPlaceOfWhatItWas();
        promise12HigherBitsAreNoPlaces();
        promise13LeastAndMost();
        promise13ManySlotsAreOneByOne();
        promise13TimeAtMostAThousandMillion();
        promise14AnotherWhatOrMobile();
        promise15AnotherWhatOrGroup();
        promise16NoneSuch();
        promise17NoneSuch();
        promise18LowestBits();
        promise19And20LowestBits();
        promise20BeforeTheCheck();
        C.end();
    }

    /** "All is as told": "At first all are off, in no group" */
    private static void promise1InNoGroup() {
        TrunkCells x = Checks.withMobilesIn(0, 1, 2, 0, 1, 2, 0, 1);
        for (int m = 0; m < 8; m++) {
            for (int g = 0; g < 4; g++) {
                x.press(m, g, 3);
                x.tick(4);
                C.due(m + " is in no group: taken", x.mobile(m, 5), 0);
                C.due(m + " is in no group: " + g, x.call(g, 1), NONE);
                x.release(m);
            }
        }
    }

    /** "A mobile's key, and the one that the switch has for it." */
    private static void promise2EachMobileHasItsKeys() {
        for (int wrong = 0; wrong < 8; wrong++) {
            TrunkCells x = new TrunkCells();
            for (int m = 0; m < 8; m++) {
                x.keys(m, 1000 + m, m == wrong ? 1 : 1000 + m);
            }
            for (int m = 0; m < 8; m++) {
                x.move(m, m % 3);
                x.register(m);
                x.tick(4);
                C.due(m + " with a wrong key of " + wrong, x.mobile(m, 13), m == wrong ? NONE : m % 3);
            }
        }
    }

    /** "A mobile's key, and the one that the switch has for it." */
    private static void promise2LaterKeysReplaceEarlierOnes() {
        TrunkCells x = new TrunkCells();
        x.move(0, 0);
        x.keys(0, 5, 5);
        x.keys(0, 6, 7);
        x.register(0);
        x.tick(4);
        C.due("other keys", x.mobile(0, 13), NONE);
        x.register(0);
        x.keys(0, Integer.MAX_VALUE, Integer.MAX_VALUE);
        x.tick(4);
        C.due("REGISTER is made with the key that it has when it is sent", x.mobile(0, 13), 0);
    }

    private static int groupsThatServe(int groups) {
        int served = 0;
        for (int g = 0; g < 4; g++) {
            TrunkCells x = Checks.withMobilesIn(0);
            x.member(0, 15);
            x.member(0, groups);
            x.press(0, g, 0);
            x.tick(4);
            served |= x.call(g, 1) == 0 ? 1 << g : 0;
        }
        return served;
    }

    /** "The groups of which a mobile is a member" */
    private static void promise4LaterGroupsReplaceEarlierOnes() {
        for (int groups = 0; groups < 16; groups++) {
            C.due("groups", groupsThatServe(groups), groups);
        }
    }

    /** "as the lowest 4 bits." */
    private static void promise4HigherBitsAreNoGroups() {
        C.due("16", groupsThatServe(16), 0);
        C.due("-1", groupsThatServe(-1), 15);
        C.due("the least", groupsThatServe(Integer.MIN_VALUE), 0);
        C.due("the most, but 5", groupsThatServe(Integer.MAX_VALUE - 5), 10);
    }

    /** "A mobile is in a cell (perhaps the same) from now on, or off (NONE)" */
    private static void promise5ToEachCellAndOff() {
        for (int m = 0; m < 8; m++) {
            TrunkCells x = new TrunkCells();
            for (int cell : new int[] {NONE, 0, 0, 1, 2, 2, NONE, NONE, 2, 0}) {
                x.move(m, cell);
                C.due("cell of " + m, x.mobile(m, 0), cell);
            }
        }
    }

    /** "(what it has heard, its draws, and where the switch has it stay)" */
    private static void promise5WhatStays() {
        for (int cell = NONE; cell < 3; cell++) {
            TrunkCells x = Checks.withMobilesIn(1, 1);
            x.member(0, 1);
            x.member(1, 1);
            x.speak(0, 77);
            x.press(0, 0, 0);
            x.tick(8);
            x.send(1, 1, 500);
            x.tick(8);
            x.draw(1, 4);
            x.draw(1, 0);
            x.register(1);
            int heard = x.mobile(1, 8);
            C.due("heard something", heard > 0 ? 1 : 0, 1);
            x.move(1, cell);
            C.dueRow("moved to " + cell, what -> x.mobile(1, what),
                    cell, 0, NONE, NONE, NONE, 0, 0, 0, heard, 77, 1, 16 * 500 + 1, 2, 1);
        }
    }

    /** "it has no message, presses for none, is idle" */
    private static void promise5MessageIsNotSent() {
        TrunkCells x = new TrunkCells();
        x.move(0, 0);
        x.register(0);
        x.move(0, 1);
        x.tick(40);
        C.due("neither here nor there", x.mobile(0, 13), NONE);
        x.press(0, 2, 1);
        x.move(0, 1);
        C.dueRow("no REQUEST", i -> x.mobile(0, 4 + i), NONE, 0);
        x.press(0, 3, 1);
        C.due("it may press then", x.mobile(0, 4), 3);
    }

    /** "(Tries and wait of a new message are 0.)" */
    private static void promise6TriesAndWaitOfANewMessage() {
        for (int kind = 1; kind <= 3; kind++) {
            for (int way = 0; way < 3; way++) {
                TrunkCells x = new TrunkCells();
                x.move(0, 0);
                x.draw(0, 7);
                x.press(0, 1, 1);
                x.fault(0, Checks.ALL_PLACES);
                x.tick(4);
                C.dueRow("an earlier one", i -> x.mobile(0, 5 + i), 2, 1, 7);
                endMessage(x, way);
                makeMessage(x, kind);
                C.dueRow("kind " + kind + ", way " + way, i -> x.mobile(0, 5 + i), kind, 0, 0);
                Checks.toFrame(x);
                x.tick(1);
                C.due("sent at once", x.mobile(0, 5), 0);
            }
        }
    }

    private static void endMessage(TrunkCells x, int way) {
        if (way == 0) {
            x.release(0);
        } else if (way == 1) {
            x.move(0, 0);
        } else {
            x.tick(8 * 4);
            x.release(0);
        }
    }

    private static void makeMessage(TrunkCells x, int kind) {
        if (kind == Checks.REGISTER) {
            x.register(0);
        } else if (kind == Checks.REQUEST) {
            x.press(0, 2, 2);
        } else {
            x.send(0, 1, 1);
        }
    }

    /** "A mobile presses for a group (whether it is a member or not)" */
    private static void promise7NoMember() {
        for (int g = 0; g < 4; g++) {
            TrunkCells x = Checks.withMobilesIn(0);
            x.member(0, 15 ^ 1 << g);
            x.press(0, g, 0);
            C.dueRow("presses for " + g, i -> x.mobile(0, 4 + i), g, Checks.REQUEST);
            x.tick(4);
            C.due("presses on", x.mobile(0, 4), g);
            C.dueRow("no call", what -> x.call(x.mobile(0, 4), what), NONE, NONE, NONE, 0);
        }
    }

    /** "has REQUEST with the lowest 2 bits of priority as its message" */
    private static void promise7LeastAndMost() {
        int[][] told = {{0, 0}, {1, 1}, {2, 2}, {3, 3}, {4, 0}, {7, 3}, {-1, 3}, {-4, 0}, {Integer.MIN_VALUE, 0},
            {Integer.MAX_VALUE, 3}};
        for (int[] pair : told) {
            TrunkCells x = Checks.withMobilesIn(0, NONE, NONE, NONE, NONE, NONE, NONE, 0);
            x.member(0, 8);
            x.member(7, 8);
            x.press(0, 3, 0);
            x.tick(4);
            x.press(7, 3, pair[0]);
            x.tick(4);
            C.due("priority " + pair[0], x.waiting(3, 0), 28 + pair[1]);
        }
    }

    /** "a REQUEST that is its message is gone" */
    private static void promise8RequestWithTriesAndWait() {
        TrunkCells x = Checks.withMobilesIn(0);
        x.member(0, 1);
        x.draw(0, 3);
        x.press(0, 0, 1);
        x.fault(0, Checks.ALL_PLACES);
        x.tick(8);
        C.dueRow("before", i -> x.mobile(0, 4 + i), 0, Checks.REQUEST, 1, 2);
        x.release(0);
        C.dueRow("behind", i -> x.mobile(0, 4 + i), NONE, 0, 0, 0);
        x.tick(40);
        C.due("it is not sent", x.call(0, 0), NONE);
    }

    /** "a REQUEST that is its message is gone" (and no other message) */
    private static void promise8OthersMessagesStay() {
        TrunkCells x = Checks.withMobilesIn(0);
        x.press(0, 0, 1);
        x.tick(4);
        x.register(0);
        x.fault(0, Checks.ALL_PLACES);
        x.tick(4);
        x.release(0);
        C.dueRow("REGISTER", i -> x.mobile(0, 4 + i), NONE, Checks.REGISTER, 1, 1);
        x.tick(8);
        C.due("is taken", x.mobile(0, 5), 0);
        x.press(0, 0, 1);
        x.tick(4);
        x.send(0, 0, 5);
        x.release(0);
        C.dueRow("DATA", i -> x.mobile(0, 4 + i), NONE, Checks.DATA, 0, 0);
        x.tick(8);
        C.due("comes", x.mobile(0, 11), 80);
    }

    /** "for another one, or itself" */
    private static void promise9FromEachToEach() {
        for (int from = 0; from < 8; from++) {
            TrunkCells x = Checks.withMobilesIn(0, 1, 2, 0, 1, 2, 0, 1);
            for (int to = 0; to < 8; to++) {
                x.send(from, to, 100 + to);
                x.tick(8);
                C.due("data of " + to, x.mobile(to, 11), 16 * (100 + to) + from);
                C.due("how many", x.mobile(to, 10), 1);
            }
        }
    }

    /** "(the lowest 9 bits of data)" */
    private static void promise9NineBits() {
        int[][] told = {{0, 0}, {256, 256}, {511, 511}, {512, 0}, {1023, 511}, {-1, 511}, {-512, 0},
            {Integer.MIN_VALUE, 0}, {Integer.MAX_VALUE, 511}};
        for (int[] pair : told) {
            TrunkCells x = Checks.withMobilesIn(2, 1);
            x.send(0, 1, pair[0]);
            x.tick(8);
            C.due("data " + pair[0], x.mobile(1, 11), 16 * pair[1]);
        }
    }

    /** "the lowest 19 bits of speech" */
    private static void promise10NineteenBits() {
        int most = (1 << 19) - 1;
        int[][] told = {{0, 0}, {1 << 18, 1 << 18}, {most, most}, {1 << 19, 0}, {(1 << 20) - 1, most}, {-1, most},
            {Integer.MIN_VALUE, 0}, {Integer.MAX_VALUE, most}};
        for (int[] pair : told) {
            TrunkCells x = Checks.withMobilesIn(0, NONE, NONE, NONE, NONE, NONE, NONE, 1);
            x.member(0, 8);
            x.member(7, 8);
            x.speak(7, pair[0]);
            x.press(7, 3, 0);
            x.tick(8);
            C.due("speech " + pair[0], x.mobile(0, 9), pair[1]);
            C.due("it is no letting go", x.call(3, 1), 7);
        }
    }

    /** "IllegalArgumentException: it is not 0 .. 15" (0 and 15 are taken) */
    private static void promise11LeastAndMost() {
        for (int draw : new int[] {0, 1, 14, 15}) {
            TrunkCells x = new TrunkCells();
            x.move(7, 2);
            x.draw(7, draw);
            x.register(7);
            x.fault(2, Checks.ALL_PLACES);
            x.tick(4);
            C.due("wait", x.mobile(7, 7), draw);
            x.tick(4 * draw);
            C.due("not yet", x.mobile(7, 13), NONE);
            x.tick(1);
            C.due("behind " + draw + " frames", x.mobile(7, 13), 2);
        }
    }

    /** "up to 8 DRAWS": "IllegalStateException: it has 8." */
    private static void promise11RoomAgainWhenOneIsGone() {
        TrunkCells x = new TrunkCells();
        x.move(0, 0);
        for (int i = 0; i < 8; i++) {
            x.draw(0, i);
        }
        int given = 8;
        for (int i = 0; i < 20; i++) {
            C.dueState("full", () -> x.draw(0, 1));
            x.register(0);
            x.fault(0, Checks.ALL_PLACES);
            x.tick(4);
            C.due("the draws go in their order", x.mobile(0, 7), i % 16);
            C.due("one is gone", x.mobile(0, 12), 7);
            x.draw(0, given++ % 16);
            C.due("one has come", x.mobile(0, 12), 8);
            x.move(0, 0);
        }
    }

    /** "The fault of a cell (0 .. 2) or mobile (3 .. 10: 0 .. 7)" */
    private static void promise12EachHasItsOwn() {
        for (int at = 0; at < 11; at++) {
            TrunkCells x = new TrunkCells();
            x.fault(at, Checks.ALL_PLACES);
            for (int m = 0; m < 8; m++) {
                x.move(m, 0);
                x.register(m);
                x.tick(4);
                boolean isLost = at == 0 && m == 0;
                C.due("fault " + at + ": cell 0 lost it from " + m, x.mobile(m, 13), isLost ? NONE : 0);
                boolean isKnown = !isLost && at != 3 + m;
                C.due("fault " + at + ": mobile " + m + " lost TAKEN", x.mobile(m, 6), isKnown ? 0 : 1);
                x.move(m, NONE);
            }
            for (int cell = 1; cell < 3; cell++) {
                x.move(0, cell);
                x.register(0);
                x.tick(4);
                C.due("fault " + at + ": cell " + cell + " lost it", x.mobile(0, 6), at == cell ? 1 : 0);
            }
        }
    }

    private static boolean isLostBehind(long... faults) {
        TrunkCells x = new TrunkCells();
        x.move(0, 1);
        x.register(0);
        for (long places : faults) {
            x.fault(1, places);
        }
        x.tick(4);
        return x.mobile(0, 13) == NONE;
    }

    /** "in place of what it was" */
    private static void promise12InPlaceOfWhatItWas() {
        C.due("all", isLostBehind(Checks.ALL_PLACES) ? 1 : 0, 1);
        C.due("all, then none", isLostBehind(Checks.ALL_PLACES, 0) ? 1 : 0, 0);
        C.due("all, then all", isLostBehind(Checks.ALL_PLACES, Checks.ALL_PLACES) ? 1 : 0, 1);
        C.due("all, then one", isLostBehind(Checks.ALL_PLACES, 1L << 30) ? 1 : 0, 0);
        C.due("none, then all", isLostBehind(0, Checks.ALL_PLACES) ? 1 : 0, 1);
    }

    /** "the lowest 54 bits" */
    private static void promise12HigherBitsAreNoPlaces() {
        C.due("bits 54 to 63", isLostBehind(-1L << 54) ? 1 : 0, 0);
        C.due("bit 63", isLostBehind(Long.MIN_VALUE) ? 1 : 0, 0);
        C.due("all 64", isLostBehind(-1L) ? 1 : 0, 1);
        C.due("all but bit 63", isLostBehind(Long.MAX_VALUE) ? 1 : 0, 1);
    }

    /** "n slots more: TIME. IllegalArgumentException: n is not 0 .. 200" (0 and 200 are taken) */
    private static void promise13LeastAndMost() {
        TrunkCells x = new TrunkCells();
        C.due("tick(0)", x.tick(0), 0);
        C.due("tick(200)", x.tick(200), 200);
        C.due("tick(0)", x.tick(0), 200);
        C.due("tick(199)", x.tick(199), 399);
        C.due("tick(1)", x.tick(1), 400);
        TrunkCells y = new TrunkCells();
        for (int i = 1; i <= 511; i++) {
            y.tick(200);
        }
        C.due("the latest time there is", y.tick(200), 512 * 200);
    }

    private static void makeCalls(TrunkCells x) {
        for (int m = 0; m < 8; m++) {
            x.member(m, 15);
            x.move(m, m % 3);
            x.register(m);
            x.draw(m, m);
            x.draw(m, 2 * m);
        }
        for (int m = 0; m < 8; m++) {
            x.tick(13);
            x.move(m, m % 3);
            x.speak(m, 1 + m);
            x.press(m, m % 4, m % 3);
        }
    }

    /** "n slots more" */
    private static void promise13ManySlotsAreOneByOne() {
        TrunkCells atOnce = Checks.after(EdgesTest::makeCalls);
        atOnce.tick(200);
        int[] due = Checks.stateOf(atOnce);
        for (int part : new int[] {1, 2, 3, 4, 5, 7, 50, 199}) {
            TrunkCells x = Checks.after(EdgesTest::makeCalls);
            for (int left = 200; left > 0; left -= part) {
                x.tick(Math.min(left, part));
            }
            C.dueAnswers("200 slots by " + part, Checks.stateOf(x), due);
        }
    }

    /**
     * "or TIME would be above 1,000,000,000." No object comes there in its 512 calls, so the program's time is set by
     * force; a program that keeps it under another name cannot be tested so.
     */
    private static void promise13TimeAtMostAThousandMillion() throws ReflectiveOperationException {
        TrunkCells x = Checks.withMobilesIn(0);
        Field time;
        try {
            time = TrunkCells.class.getDeclaredField("time");
        } catch (NoSuchFieldException e) {
            System.out.println("EdgesTest: not tested: TIME above 1,000,000,000");
            return;
        }
        time.setAccessible(true);
        time.setInt(x, 999_999_801);
        x.register(0);
        C.dueArgument("one slot too many", () -> x.tick(200));
        C.due("nothing has changed", x.tick(0), 999_999_801);
        C.due("still to be sent", x.mobile(0, 5), Checks.REGISTER);
        C.due("as many as there are", x.tick(199), 1_000_000_000);
        C.due("taken", x.mobile(0, 5), 0);
        C.dueArgument("one more", () -> x.tick(1));
        C.dueArgument("200 more", () -> x.tick(200));
        C.due("none more", x.tick(0), 1_000_000_000);
    }

    /** An object of whose mobiles, groups and cells there is something to tell at each place. */
    private static TrunkCells full() {
        TrunkCells x = Checks.withMobilesIn(0, 0, 0, 0, 0, 0, 0, 0);
        for (int m = 0; m < 8; m++) {
            x.member(m, 15);
        }
        for (int m = 0; m < 7; m++) {
            x.press(m, 3, m);
            x.tick(4);
        }
        return x;
    }

    /** "NONE for another what, or mobile." */
    private static void promise14AnotherWhatOrMobile() {
        TrunkCells x = full();
        for (int what : new int[] {Integer.MIN_VALUE, -2, -1, 14, 15, 16, 30, Integer.MAX_VALUE}) {
            for (int m = 0; m < 8; m++) {
                C.due("mobile(" + m + ", " + what + ")", x.mobile(m, what), NONE);
            }
        }
        for (int m : new int[] {Integer.MIN_VALUE, -2, -1, 8, 9, 16, Integer.MAX_VALUE}) {
            for (int what = -1; what < 15; what++) {
                C.due("mobile(" + m + ", " + what + ")", x.mobile(m, what), NONE);
            }
        }
    }

    /** "NONE for another what, or group." */
    private static void promise15AnotherWhatOrGroup() {
        TrunkCells x = full();
        C.dueRow("call", what -> x.call(3, what), 1, 0, 8, 6);
        for (int what : new int[] {Integer.MIN_VALUE, -2, -1, 4, 5, 8, Integer.MAX_VALUE}) {
            for (int g = 0; g < 4; g++) {
                C.due("call(" + g + ", " + what + ")", x.call(g, what), NONE);
            }
        }
        for (int g : new int[] {Integer.MIN_VALUE, -2, -1, 4, 5, 7, 8, Integer.MAX_VALUE}) {
            for (int what = -1; what < 5; what++) {
                C.due("call(" + g + ", " + what + ")", x.call(g, what), NONE);
            }
        }
    }

    /** "NONE if there is none such." */
    private static void promise16NoneSuch() {
        TrunkCells x = full();
        C.dueRow("a full row", k -> x.waiting(3, k), 5, 10, 15, 16, 21, 26, NONE, NONE, NONE);
        C.dueRow("an empty row", k -> x.waiting(2, k), NONE, NONE);
        for (int i : new int[] {Integer.MIN_VALUE, -5, -1, 6, 7, 8, Integer.MAX_VALUE}) {
            C.due("waiting(3, " + i + ")", x.waiting(3, i), NONE);
            C.due("waiting(" + i + ", 0)", x.waiting(i, 0), NONE);
        }
        C.due("waiting(4, 0)", x.waiting(4, 0), NONE);
    }

    /** "NONE if there is none such." */
    private static void promise17NoneSuch() {
        TrunkCells x = Checks.withMobilesIn(0, 1);
        C.due("nothing to say", x.saying(0, 0), NONE);
        for (int i = 0; i < 12; i++) {
            // Mobile 0's cell says TAKEN for what it gets itself, so it never says what it gets from the other.
            x.send(0, 7, 0);
            x.send(1, 0, i);
            x.tick(4);
        }
        for (int k = 0; k < 8; k++) {
            C.due("saying(0, " + k + ")", x.saying(0, k) >= 0 ? 1 : 0, 1);
        }
        for (int k : new int[] {Integer.MIN_VALUE, -1, 8, 9, 11, Integer.MAX_VALUE}) {
            C.due("saying(0, " + k + ")", x.saying(0, k), NONE);
        }
        for (int cell : new int[] {Integer.MIN_VALUE, -1, 3, 4, Integer.MAX_VALUE}) {
            C.due("saying(" + cell + ", 0)", x.saying(cell, 0), NONE);
        }
    }

    /** "The burst of a block (its lowest 20 bits) in a colour (its lowest 3 bits)." */
    private static void promise18LowestBits() {
        TrunkCells x = new TrunkCells();
        for (int block : new int[] {0, 1, 1 << 19, (1 << 20) - 1}) {
            long due = ModelCode.coded(block, 5);
            C.due("coded(" + block + ", 5)", x.coded(block, 5), due);
            C.due("54 bits", due >>> 54, 0);
            for (int bit = 20; bit < 32; bit++) {
                C.due("with bit " + bit, x.coded(block | 1 << bit, 5), due);
            }
            for (int bit = 3; bit < 32; bit++) {
                C.due("colour with bit " + bit, x.coded(block, 5 | 1 << bit), due);
            }
        }
    }

    /** "What the lowest 54 bits of a burst are decoded as in a colour (its lowest 3 bits)" */
    private static void promise19And20LowestBits() {
        TrunkCells x = new TrunkCells();
        for (int block : new int[] {0, 1, (1 << 20) - 1}) {
            long burst = x.coded(block, 2) ^ 1L << 53;
            for (int bit = 54; bit < 64; bit++) {
                C.due("decoded with bit " + bit, x.decoded(burst | 1L << bit, 2), block);
                C.due("distance with bit " + bit, x.distance(burst | 1L << bit, 2), 1);
            }
            for (int bit = 3; bit < 32; bit++) {
                C.due("decoded in a colour with bit " + bit, x.decoded(burst, 2 | 1 << bit), block);
                C.due("distance in a colour with bit " + bit, x.distance(burst, 2 | 1 << bit), 1);
            }
        }
    }

    /** "the burst that decoded() finds, before the check is looked at" */
    private static void promise20BeforeTheCheck() {
        TrunkCells x = new TrunkCells();
        long row = (long) 4711 << 16 | (ModelCode.check(4711) ^ 2048) << 4;
        long burst = ModelCode.codedRow(row, 1);
        C.due("lost", x.decoded(burst, 1), NONE);
        C.due("and like it at all places", x.distance(burst, 1), 0);
        C.due("unlike it at one", x.distance(burst ^ 1L << 7, 1), 1);
    }
}
