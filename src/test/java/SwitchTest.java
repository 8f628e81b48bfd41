/** Promises 4, 7, 13, 15, 16 and 17: rows, priorities, channels, GRANT and CEASE, and how long one has the floor. */
public final class SwitchTest {
    private static final Checks C = new Checks("SwitchTest");
    private static final int NONE = Checks.NONE;

    public static void main(String[] args) {
        promise4OnlyMembersComeIntoTheRow();
        promise4GroupsAreFourBits();
        promise4CellsWithMembersAreTold();
        promise7RequestNeedsRegistering();
        promise7NobodyIsInARowTwice();
        promise7HolderDoesNotWait();
        promise16RowHasSix();
        promise16FirstOfTheHighestPriority();
        promise15FloorForEightFrames();
        promise15LowestFreeChannel();
        promise15FourthGroupWaitsForAChannel();
        promise15AnyGroupMayBeTheFourth();
        promise13LongTurnsEndFromGroup0On();
        promise13GrantsAndMobiles();
        promise13CeaseMakesIdle();
        C.end();
    }

    private static TrunkCells membersOfAll(int... cells) {
        TrunkCells x = Checks.withMobilesIn(cells);
        for (int m = 0; m < cells.length; m++) {
            x.member(m, 15);
        }
        return x;
    }

    /** A mobile presses, and its REQUEST is taken: a frame. */
    private static void press(TrunkCells x, int mobile, int group, int priority) {
        Checks.toFrame(x);
        x.press(mobile, group, priority);
        x.tick(4);
    }

    private static void promise4OnlyMembersComeIntoTheRow() {
        TrunkCells x = Checks.withMobilesIn(0, 0);
        x.member(0, 2);
        press(x, 0, 0, 1);
        C.due("no member of 0", x.call(0, 3) + x.call(0, 0), NONE);
        x.release(0);
        press(x, 0, 1, 1);
        C.due("member of 1", x.call(1, 1), 0);
        x.member(0, 0);
        C.due("the call goes on", x.call(1, 1), 0);
    }

    private static void promise4GroupsAreFourBits() {
        for (int group = 0; group < 4; group++) {
            TrunkCells x = Checks.withMobilesIn(0);
            x.member(0, ~(1 << group));
            press(x, 0, group, 0);
            C.due("all but " + group, x.call(group, 1), NONE);
            TrunkCells y = Checks.withMobilesIn(0);
            y.member(0, 16 + (1 << group));
            press(y, 0, group, 0);
            C.due("only " + group, y.call(group, 1), 0);
        }
    }

    private static void promise4CellsWithMembersAreTold() {
        TrunkCells x = Checks.withMobilesIn(0, 1, 2);
        x.member(0, 8);
        x.member(1, 7);
        x.member(2, 8);
        x.press(0, 3, 2);
        x.tick(1);
        int grant = Checks.block(Checks.GRANT, 0, 3, 1, 0);
        C.due("cell 0: behind TAKEN", x.saying(0, 0), grant);
        C.due("cell 1: no member", x.saying(1, 0), NONE);
        C.due("cell 2 has said it in its turn", x.saying(2, 0), NONE);
        C.due("to mobile 2", x.mobile(2, 1), 2);
        C.due("mobile 0 has not got it", x.mobile(0, 1), 0);
        x.member(2, 0);
        x.tick(4);
        C.due("mobile 0 has", x.mobile(0, 1), 1);
        x.release(0);
        x.tick(3);
        C.due("CEASE in cell 0", x.saying(0, 0), Checks.block(Checks.CEASE, 0, 3, 1, 0));
        C.due("no member in cell 2 any more", x.saying(2, 0), NONE);
    }

    private static void promise7RequestNeedsRegistering() {
        TrunkCells x = new TrunkCells();
        x.member(0, 1);
        x.move(0, 0);
        press(x, 0, 0, 0);
        C.due("taken", x.mobile(0, 5), 0);
        C.due("nothing came of it", x.call(0, 0), NONE);
        C.due("no row", x.call(0, 3), 0);
        TrunkCells y = membersOfAll(0);
        y.move(0, 1);
        press(y, 0, 0, 0);
        C.due("registered in another cell", y.call(0, 0), NONE);
    }

    private static void promise7NobodyIsInARowTwice() {
        TrunkCells x = membersOfAll(0, 0);
        press(x, 0, 0, 0);
        press(x, 1, 0, 1);
        x.release(1);
        press(x, 1, 0, 3);
        C.due("one in the row", x.call(0, 3), 1);
        C.due("with the first priority", x.waiting(0, 0), 5);
        x.release(1);
        press(x, 1, 2, 3);
        C.due("in another group's too", x.call(2, 1), 1);
    }

    private static void promise7HolderDoesNotWait() {
        TrunkCells x = membersOfAll(0, 0);
        press(x, 0, 0, 0);
        x.release(0);
        x.press(0, 0, 3);
        x.tick(4);
        C.due("holder", x.call(0, 1), 0);
        C.due("its row", x.call(0, 3), 0);
    }

    private static void promise16RowHasSix() {
        TrunkCells x = membersOfAll(0, 0, 0, 0, 0, 0, 0, 0);
        int since = x.tick(0) / 4;
        x.press(0, 1, 0);
        x.tick(4);
        for (int m = 1; m < 7; m++) {
            press(x, m, 1, 0);
        }
        C.due("floor since", x.call(1, 2), since);
        x.press(7, 1, 3);
        x.tick(1);
        C.due("taken", x.mobile(7, 5), 0);
        C.due("six in the row", x.call(1, 3), 6);
        C.dueRow("in the order in which they came", k -> x.waiting(1, k), 4, 8, 12, 16, 20, 24, NONE);
    }

    private static void promise16FirstOfTheHighestPriority() {
        TrunkCells x = membersOfAll(0, 0, 0, 0, 0);
        press(x, 0, 0, 3);
        press(x, 1, 0, 1);
        press(x, 2, 0, 2);
        press(x, 3, 0, 2);
        press(x, 4, 0, 0);
        C.dueRow("row", k -> x.waiting(0, k), 5, 10, 14, 16);
        int[] holders = {2, 3, 1, 4};
        x.tick(16);
        for (int holder : holders) {
            C.due("holder next", x.call(0, 1), holder);
            x.tick(32);
        }
        C.due("no call", x.call(0, 0), NONE);
    }

    private static void promise15FloorForEightFrames() {
        TrunkCells x = membersOfAll(0, 0);
        int frame = x.tick(0) / 4;
        press(x, 0, 2, 0);
        C.dueRow("call", what -> x.call(2, what), 1, 0, frame, 0);
        press(x, 1, 2, 0);
        C.dueRow("call", what -> x.call(2, what), 1, 0, frame, 1);
        x.tick(4 * 6 + 3);
        C.due("before the end of slot 3", x.call(2, 1), 0);
        x.tick(1);
        C.dueRow("handed on", what -> x.call(2, what), 1, 1, frame + 8, 0);
        C.due("GRANT", x.saying(0, 0), Checks.block(Checks.GRANT, 1, 2, 1, 0));
        x.tick(31);
        C.due("before the end of slot 3", x.call(2, 1), 1);
        x.tick(1);
        C.dueRow("ended", what -> x.call(2, what), NONE, NONE, NONE, 0);
        C.due("CEASE", x.saying(0, 0), Checks.block(Checks.CEASE, 0, 2, 1, 0));
    }

    private static void promise15LowestFreeChannel() {
        TrunkCells x = membersOfAll(0, 0, 0, 0);
        press(x, 0, 3, 0);
        press(x, 1, 2, 0);
        press(x, 2, 1, 0);
        C.dueRow("channels", g -> x.call(g, 0), NONE, 3, 2, 1);
        x.tick(12);
        C.dueRow("all GRANTs have come", m -> x.mobile(m, 1), 1, 1, 1, 2);
        x.release(1);
        x.tick(4);
        C.due("2 is free", x.call(2, 0), NONE);
        press(x, 3, 0, 0);
        C.due("and given", x.call(0, 0), 2);
    }

    private static void promise15FourthGroupWaitsForAChannel() {
        TrunkCells x = Checks.withMobilesIn(0, 1, 2, 0, 1);
        x.member(0, 1);
        x.member(1, 2);
        x.member(2, 4);
        x.member(3, 8);
        x.member(4, 8);
        press(x, 0, 0, 0);
        press(x, 1, 1, 0);
        press(x, 2, 2, 0);
        press(x, 3, 3, 1);
        press(x, 4, 3, 2);
        C.dueRow("no channel for group 3", what -> x.call(3, what), NONE, NONE, NONE, 2);
        x.release(1);
        x.tick(3);
        C.due("channel 2 of group 1, for the one with the higher priority", x.call(3, 1), 4);
        C.dueRow("group 3", what -> x.call(3, what), 2, 4, x.tick(0) / 4, 1);
        C.due("CEASE first", x.saying(1, 0), Checks.block(Checks.CEASE, 0, 1, 2, 0));
        C.due("GRANT behind it", x.saying(1, 1), Checks.block(Checks.GRANT, 4, 3, 2, 0));
        C.due("GRANT in cell 0", x.saying(0, 0), Checks.block(Checks.GRANT, 4, 3, 2, 0));
        C.due("none in cell 2", x.saying(2, 0), NONE);
    }

    private static void promise15AnyGroupMayBeTheFourth() {
        for (int last = 0; last < 4; last++) {
            TrunkCells x = Checks.withMobilesIn(0, 1, 2, 0);
            for (int m = 0; m < 4; m++) {
                x.member(m, 1 << (last + 1 + m) % 4);
            }
            for (int m = 0; m < 4; m++) {
                press(x, m, (last + 1 + m) % 4, 0);
            }
            C.due("no channel for group " + last, x.call(last, 0), NONE);
            C.due("it waits", x.waiting(last, 0), 12);
            x.tick(4 * 4);
            C.due("the first call has its time yet", x.call(last, 0), NONE);
            x.tick(4);
            C.dueRow("nobody waits", g -> x.call(g, 3), 0, 0, 0, 0);
            C.due("channel 1 for group " + last, x.call(last, 0), 1);
            C.due("holder", x.call(last, 1), 3);
        }
    }

    private static void promise13LongTurnsEndFromGroup0On() {
        TrunkCells x = Checks.withMobilesIn(0, 1, 2, 0);
        x.member(0, 1);
        x.member(1, 6);
        x.member(2, 4);
        x.member(3, 8);
        x.press(0, 0, 0);
        x.press(1, 1, 0);
        x.press(2, 2, 0);
        x.tick(4);
        C.dueRow("channels", g -> x.call(g, 0), 1, 2, 3, NONE);
        press(x, 3, 3, 0);
        x.tick(28);
        C.dueRow("three ended, and group 3 got the first channel", g -> x.call(g, 0), NONE, NONE, NONE, 1);
        C.due("cell 0: CEASE", x.saying(0, 0), Checks.block(Checks.CEASE, 0, 0, 1, 0));
        C.due("cell 0: GRANT", x.saying(0, 1), Checks.block(Checks.GRANT, 3, 3, 1, 0));
        C.due("cell 1: CEASE of 1", x.saying(1, 0), Checks.block(Checks.CEASE, 0, 1, 2, 0));
        C.due("cell 1: CEASE of 2, then", x.saying(1, 1), Checks.block(Checks.CEASE, 0, 2, 3, 0));
    }

    /** Has a mobile of cell 0 decode a control block in the next control slot, in place of some DATA for mobile 7. */
    private static void hears(TrunkCells x, int mobile, int block) {
        Checks.toFrame(x);
        x.send(6, 7, 0);
        x.tick(4);
        x.fault(3 + mobile, Checks.turning(Checks.block(Checks.DATA_DOWN, 7, 1, 2, 0), block));
        x.tick(1);
    }

    private static TrunkCells hearing() {
        TrunkCells x = Checks.withMobilesIn(NONE, NONE, NONE, NONE, NONE, NONE, 1, 0);
        // It is not registered, so that nothing comes of its own REQUEST.
        x.move(0, 0);
        x.member(0, 7);
        return x;
    }

    private static void promise13GrantsAndMobiles() {
        TrunkCells x = hearing();
        hears(x, 0, Checks.block(Checks.GRANT, 3, 3, 1, 0));
        C.due("not its group", x.mobile(0, 1), 0);
        hears(x, 0, Checks.block(Checks.GRANT, 0, 1, 2, 0));
        C.dueRow("named, but it does not press", i -> x.mobile(0, 1 + i), 2, 2, 1);
        hears(x, 0, Checks.block(Checks.GRANT, 3, 0, 3, 5));
        C.dueRow("listening: goes to the other call", i -> x.mobile(0, 1 + i), 2, 3, 0);
        x.press(0, 2, 0);
        hears(x, 0, Checks.block(Checks.GRANT, 0, 1, 1, 0));
        C.dueRow("named, but it presses for another", i -> x.mobile(0, 1 + i), 2, 1, 1);
        hears(x, 0, Checks.block(Checks.GRANT, 0, 2, 3, 0));
        C.dueRow("named, and presses for it", i -> x.mobile(0, 1 + i), 1, 3, 2);
        hears(x, 0, Checks.block(Checks.GRANT, 5, 1, 1, 0));
        C.dueRow("talking: stays", i -> x.mobile(0, 1 + i), 1, 3, 2);
        hears(x, 0, Checks.block(Checks.GRANT, 5, 2, 1, 0));
        C.dueRow("talking: another has the floor of this call", i -> x.mobile(0, 1 + i), 2, 1, 2);
        C.due("it presses on", x.mobile(0, 4), 2);
    }

    private static void promise13CeaseMakesIdle() {
        TrunkCells x = hearing();
        hears(x, 0, Checks.block(Checks.GRANT, 5, 1, 2, 0));
        C.due("listening", x.mobile(0, 1), 2);
        hears(x, 0, Checks.block(Checks.CEASE, 0, 2, 2, 0));
        C.dueRow("another group's", i -> x.mobile(0, 1 + i), 2, 2, 1);
        x.member(0, 0);
        hears(x, 0, Checks.block(Checks.CEASE, 3, 1, 0, 7));
        C.dueRow("its call's group's", i -> x.mobile(0, 1 + i), 0, NONE, NONE);
        for (int kind : new int[] {0, 1, 2, 3, 12, 15}) {
            x.member(0, 15);
            hears(x, 0, Checks.block(kind, 0, 1, 1, 0));
            C.dueRow("kind " + kind, i -> x.mobile(0, 1 + i), 0, NONE, NONE);
            C.due("no data", x.mobile(0, 10), 0);
        }
    }
}
