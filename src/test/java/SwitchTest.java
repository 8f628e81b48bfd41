/** Promises 4, 7, 13, 15, 16 and 17: rows, priorities, channels, GRANT and CEASE, and how long one has the floor. */
public final class SwitchTest {
    private static final Checks C = new Checks("SwitchTest");
    private static final int NONE = Checks.NONE;

    public static void main(String[] args) {
        promise6RegisterWithAnotherRest();
        promise6RegisteredInOneCellAlone();
        promise4OnlyMembersComeIntoTheRow();
        promise4GroupsAreFourBits();
        promise4CellsWithMembersAreTold();
        promise4OneGrantACell();
        promise4NoMemberIsRegistered();
        promise7RequestNeedsRegistering();
        promise7NobodyIsInARowTwice();
        promise7HolderDoesNotWait();
        promise7RequestDuringACall();
        promise16RowHasSix();
        promise16RoomAgainInTheRow();
        promise16FirstOfTheHighestPriority();
        promise16FirstOfEachPriority();
        promise15FloorForEightFrames();
        promise15FloorFromEachSlotOn();
        promise15EachCallHasItsOwnTime();
        promise15NobodyWaits();
        promise15LowestFreeChannel();
        promise15FourthGroupWaitsForAChannel();
        promise15AnyGroupMayBeTheFourth();
        promise15OtherCallsGoOn();
        promise13LongTurnsEndFromGroup0On();
        promise13GrantsAndMobiles();
        promise13CeaseMakesIdle();
        C.end();
    }

    private static TrunkCells membersOfAll(int... cells) {
        TrunkCells x = Checks.withMobilesIn(cells);
        for (int m = 0; m < cells.length; m++) {
            x.member(m, 15);
        }
        return x;
    }

    /** A mobile presses, and its REQUEST is taken: a frame. */
    private static void press(TrunkCells x, int mobile, int group, int priority) {
        Checks.toFrame(x);
        x.press(mobile, group, priority);
        x.tick(4);
    }

    /** "if REST is the lowest 9 bits of MIX(the key it has, frame) ..., else nothing" */
    private static void promise6RegisterWithAnotherRest() {
        for (int bit = 0; bit < 9; bit++) {
            TrunkCells x = Checks.withMobilesIn(0);
            x.move(0, 1);
            x.register(0);
            int frame = x.tick(0) / 4;
            int sent = Checks.block(Checks.REGISTER, 0, 0, 0, Checks.mix(0, frame) % 512);
            x.fault(1, Checks.turning(sent, sent ^ 1 << bit));
            x.tick(4);
            C.due("taken", x.mobile(0, 5), 0);
            C.due("but with bit " + bit + " turned it is where it was", x.mobile(0, 13), 0);
        }
    }

    /** "REGISTERED in that cell (and in no other)" */
    private static void promise6RegisteredInOneCellAlone() {
        TrunkCells x = Checks.withMobilesIn(0, 1);
        x.member(0, 1);
        for (int cell : new int[] {1, 2, 2, 0, 1}) {
            x.move(0, cell);
            x.register(0);
            x.tick(4);
            C.due("registered", x.mobile(0, 13), cell);
            x.press(0, 0, 0);
            x.tick(1);
            for (int c = 0; c < 3; c++) {
                int due = c == cell ? Checks.block(Checks.GRANT, 0, 0, 1, 0) : NONE;
                C.due("GRANT in cell " + c + ", registered in " + cell, x.saying(c, 0), due);
            }
            x.tick(7);
            x.release(0);
            x.tick(8);
            C.due("no call", x.call(0, 0), NONE);
        }
    }

    /** "REQUEST, of a member of the group" */
    private static void promise4OnlyMembersComeIntoTheRow() {
        TrunkCells x = Checks.withMobilesIn(0, 0);
        x.member(0, 2);
        press(x, 0, 0, 1);
        C.due("no member of 0", x.call(0, 3) + x.call(0, 0), NONE);
        x.release(0);
        press(x, 0, 1, 1);
        C.due("member of 1", x.call(1, 1), 0);
        x.member(0, 0);
        C.due("the call goes on", x.call(1, 1), 0);
    }

    /** "as the lowest 4 bits" */
    private static void promise4GroupsAreFourBits() {
        for (int group = 0; group < 4; group++) {
            TrunkCells x = Checks.withMobilesIn(0);
            x.member(0, ~(1 << group));
            press(x, 0, group, 0);
            C.due("all but " + group, x.call(group, 1), NONE);
            TrunkCells y = Checks.withMobilesIn(0);
            y.member(0, 16 + (1 << group));
            press(y, 0, group, 0);
            C.due("only " + group, y.call(group, 1), 0);
        }
    }

    /** "every cell in which a member is registered has GRANT to say" */
    private static void promise4CellsWithMembersAreTold() {
        TrunkCells x = Checks.withMobilesIn(0, 1, 2);
        x.member(0, 8);
        x.member(1, 7);
        x.member(2, 8);
        x.press(0, 3, 2);
        x.tick(1);
        int grant = Checks.block(Checks.GRANT, 0, 3, 1, 0);
        C.due("cell 0: behind TAKEN", x.saying(0, 0), grant);
        C.due("cell 1: no member", x.saying(1, 0), NONE);
        C.due("cell 2 has said it in its turn", x.saying(2, 0), NONE);
        C.due("to mobile 2", x.mobile(2, 1), 2);
        C.due("mobile 0 has not got it", x.mobile(0, 1), 0);
        x.member(2, 0);
        x.tick(4);
        C.due("mobile 0 has", x.mobile(0, 1), 1);
        x.release(0);
        x.tick(3);
        C.due("CEASE in cell 0", x.saying(0, 0), Checks.block(Checks.CEASE, 0, 3, 1, 0));
        C.due("no member in cell 2 any more", x.saying(2, 0), NONE);
    }

    /** "every cell in which a member is registered has GRANT to say": once, though there be several */
    private static void promise4OneGrantACell() {
        TrunkCells x = membersOfAll(2, 2, 2, 1, 1, 0, 0, 0);
        // Cells 0 and 1 have had their turn when cell 2 gets this, and cell 2 says TAKEN first: none has said it yet.
        x.press(0, 1, 0);
        x.tick(1);
        int grant = Checks.block(Checks.GRANT, 0, 1, 1, 0);
        C.dueRow("to say in each cell", cell -> x.saying(cell, 0), grant, grant, grant);
        C.dueRow("and no more", cell -> x.saying(cell, 1), NONE, NONE, NONE);
    }

    /** "every cell in which a member is registered": there may be none */
    private static void promise4NoMemberIsRegistered() {
        TrunkCells x = membersOfAll(0, 1);
        press(x, 0, 0, 0);
        press(x, 1, 0, 0);
        x.tick(8);
        x.member(0, 14);
        x.member(1, 14);
        x.release(0);
        x.tick(4);
        C.dueRow("the one that waits becomes holder", what -> x.call(0, what), 1, 1, x.tick(0) / 4 - 1, 0);
        C.dueRow("no cell has GRANT to say", cell -> x.saying(cell, 0), NONE, NONE, NONE);
        x.tick(4 * 8);
        C.due("the call has ended", x.call(0, 0), NONE);
        C.dueRow("no cell has CEASE to say", cell -> x.saying(cell, 0), NONE, NONE, NONE);
    }

    /** "Others are from a mobile that is registered in that cell, or nothing comes of them." */
    private static void promise7RequestNeedsRegistering() {
        TrunkCells x = new TrunkCells();
        x.member(0, 1);
        x.move(0, 0);
        press(x, 0, 0, 0);
        C.due("taken", x.mobile(0, 5), 0);
        C.due("nothing came of it", x.call(0, 0), NONE);
        C.due("no row", x.call(0, 3), 0);
        TrunkCells y = membersOfAll(0);
        y.move(0, 1);
        press(y, 0, 0, 0);
        C.due("registered in another cell", y.call(0, 0), NONE);
    }

    /** "if it is neither in it ..." */
    private static void promise7NobodyIsInARowTwice() {
        TrunkCells x = membersOfAll(0, 0);
        press(x, 0, 0, 0);
        press(x, 1, 0, 1);
        x.release(1);
        press(x, 1, 0, 3);
        C.due("one in the row", x.call(0, 3), 1);
        C.due("with the first priority", x.waiting(0, 0), 5);
        x.release(1);
        press(x, 1, 2, 3);
        C.due("in another group's too", x.call(2, 1), 1);
    }

    /** "... nor holder of the call" */
    private static void promise7HolderDoesNotWait() {
        TrunkCells x = membersOfAll(0, 0);
        press(x, 0, 0, 0);
        x.release(0);
        x.press(0, 0, 3);
        x.tick(4);
        C.due("holder", x.call(0, 1), 0);
        C.due("its row", x.call(0, 3), 0);
    }

    /** "then, if the group has no call, it is SERVED" */
    private static void promise7RequestDuringACall() {
        TrunkCells x = membersOfAll(0, 0);
        int frame = x.tick(0) / 4;
        press(x, 0, 0, 0);
        press(x, 1, 0, 3);
        C.dueRow("even the highest priority waits", what -> x.call(0, what), 1, 0, frame, 1);
        C.due("waits", x.waiting(0, 0), 7);
    }

    /** "and there are fewer than 6 in it" */
    private static void promise16RowHasSix() {
        TrunkCells x = membersOfAll(0, 0, 0, 0, 0, 0, 0, 0);
        int since = x.tick(0) / 4;
        x.press(0, 1, 0);
        x.tick(4);
        for (int m = 1; m < 7; m++) {
            press(x, m, 1, 0);
        }
        C.due("floor since", x.call(1, 2), since);
        x.press(7, 1, 3);
        x.tick(1);
        C.due("taken", x.mobile(7, 5), 0);
        C.due("six in the row", x.call(1, 3), 6);
        C.dueRow("in the order in which they came", k -> x.waiting(1, k), 4, 8, 12, 16, 20, 24, NONE);
    }

    /** "and there are fewer than 6 in it": the next holder "leaves the row" */
    private static void promise16RoomAgainInTheRow() {
        TrunkCells x = membersOfAll(0, 0, 0, 0, 0, 0, 0, 0);
        for (int m = 0; m < 7; m++) {
            press(x, m, 1, m == 3 ? 1 : 0);
        }
        press(x, 7, 1, 3);
        C.due("six in the row", x.call(1, 3), 6);
        x.tick(4);
        C.due("3 is the next holder", x.call(1, 1), 3);
        C.dueRow("and has left the row", k -> x.waiting(1, k), 4, 8, 16, 20, 24, NONE);
        x.release(7);
        press(x, 7, 1, 3);
        C.dueRow("the sixth is the last", k -> x.waiting(1, k), 4, 8, 16, 20, 24, 31, NONE);
        x.release(0);
        press(x, 0, 1, 3);
        C.due("no room for a seventh", x.call(1, 3), 6);
    }

    /** "the first of the highest priority becomes HOLDER" */
    private static void promise16FirstOfTheHighestPriority() {
        TrunkCells x = membersOfAll(0, 0, 0, 0, 0);
        press(x, 0, 0, 3);
        press(x, 1, 0, 1);
        press(x, 2, 0, 2);
        press(x, 3, 0, 2);
        press(x, 4, 0, 0);
        C.dueRow("row", k -> x.waiting(0, k), 5, 10, 14, 16);
        int[] holders = {2, 3, 1, 4};
        x.tick(16);
        for (int holder : holders) {
            C.due("holder next", x.call(0, 1), holder);
            x.tick(32);
        }
        C.due("no call", x.call(0, 0), NONE);
    }

    /** "the first of the highest priority": of several with the same one, be it the lowest or the highest */
    private static void promise16FirstOfEachPriority() {
        for (int priority = 0; priority < 4; priority++) {
            TrunkCells x = membersOfAll(0, 0, 0, 0, 0);
            press(x, 4, 0, 0);
            press(x, 3, 0, Math.max(0, priority - 1));
            press(x, 2, 0, priority);
            press(x, 0, 0, priority);
            press(x, 1, 0, priority);
            x.tick(4 * 4);
            int[] due = priority == 0 ? new int[] {3, 2, 0, 1} : new int[] {2, 0, 1, 3};
            for (int holder : due) {
                C.due("holder by priority " + priority, x.call(0, 1), holder);
                x.tick(32);
            }
        }
    }

    /** "whose holder has had the floor for 8 frames (or more) is RELEASED" */
    private static void promise15FloorForEightFrames() {
        TrunkCells x = membersOfAll(0, 0);
        int frame = x.tick(0) / 4;
        press(x, 0, 2, 0);
        C.dueRow("call", what -> x.call(2, what), 1, 0, frame, 0);
        press(x, 1, 2, 0);
        C.dueRow("call", what -> x.call(2, what), 1, 0, frame, 1);
        x.tick(4 * 6 + 3);
        C.due("before the end of slot 3", x.call(2, 1), 0);
        x.tick(1);
        C.dueRow("handed on", what -> x.call(2, what), 1, 1, frame + 8, 0);
        C.due("GRANT", x.saying(0, 0), Checks.block(Checks.GRANT, 1, 2, 1, 0));
        x.tick(31);
        C.due("before the end of slot 3", x.call(2, 1), 1);
        x.tick(1);
        C.dueRow("ended", what -> x.call(2, what), NONE, NONE, NONE, 0);
        C.due("CEASE", x.saying(0, 0), Checks.block(Checks.CEASE, 0, 2, 1, 0));
    }

    /** "has the floor from this frame on", in whatever slot of it */
    private static void promise15FloorFromEachSlotOn() {
        for (int slot = 1; slot <= 3; slot++) {
            // Mobiles 0 to 2 talk on channels 1 to 3, and mobile 3 waits for one of them, which lets go.
            int group = slot - 1;
            TrunkCells x = Checks.withMobilesIn(0, 1, 2, 0);
            for (int m = 0; m < 3; m++) {
                x.member(m, 1 << m);
                x.press(m, m, 0);
            }
            x.member(3, 1 << group);
            x.tick(4);
            press(x, 3, group, 0);
            x.tick(4);
            x.release(group);
            int frame = x.tick(0) / 4;
            x.tick(slot + 1);
            C.dueRow("handed on in slot " + slot, what -> x.call(group, what), slot, 3, frame, 0);
            x.tick(4 * 9 - slot - 2);
            C.due("before the end of slot 3", x.call(group, 1), 3);
            x.tick(1);
            C.due("at its end", x.call(group, 1), NONE);
        }
    }

    /** "each call ... whose holder has had the floor for 8 frames" */
    private static void promise15EachCallHasItsOwnTime() {
        TrunkCells x = membersOfAll(0, 0, 0);
        int frame = x.tick(0) / 4;
        for (int m = 0; m < 3; m++) {
            press(x, m, m, 0);
        }
        C.dueRow("frames", g -> x.call(g, 2), frame, frame + 1, frame + 2);
        x.tick(4 * 5);
        for (int ended = 0; ended <= 3; ended++) {
            for (int g = 0; g < 3; g++) {
                C.due(ended + " have ended; call of group " + g, x.call(g, 1), g < ended ? NONE : g);
            }
            x.tick(4);
        }
    }

    /** "A group is SERVED, if somebody is in its row": "If its row is empty, the call ends" */
    private static void promise15NobodyWaits() {
        TrunkCells x = membersOfAll(0, 1);
        press(x, 0, 2, 3);
        x.tick(4);
        x.release(0);
        x.tick(4);
        C.dueRow("the call has ended", what -> x.call(2, what), NONE, NONE, NONE, 0);
        C.due("CEASE, and no GRANT", x.saying(0, 0), Checks.block(Checks.CEASE, 0, 2, 1, 0));
        C.due("no more", x.saying(0, 1), NONE);
        x.tick(80);
        C.dueRow("no call comes of itself", g -> x.call(g, 0), NONE, NONE, NONE, NONE);
        press(x, 1, 3, 0);
        C.due("channel 1 is free again", x.call(3, 0), 1);
    }

    /** "the call begins with the lowest such one" */
    private static void promise15LowestFreeChannel() {
        TrunkCells x = membersOfAll(0, 0, 0, 0);
        press(x, 0, 3, 0);
        press(x, 1, 2, 0);
        press(x, 2, 1, 0);
        C.dueRow("channels", g -> x.call(g, 0), NONE, 3, 2, 1);
        x.tick(12);
        C.dueRow("all GRANTs have come", m -> x.mobile(m, 1), 1, 1, 1, 2);
        x.release(1);
        x.tick(4);
        C.due("2 is free", x.call(2, 0), NONE);
        press(x, 3, 0, 0);
        C.due("and given", x.call(0, 0), 2);
    }

    /** "or a channel (1, 2, 3) is of no call": "then, from 0 on, each group without a call is served" */
    private static void promise15FourthGroupWaitsForAChannel() {
        TrunkCells x = Checks.withMobilesIn(0, 1, 2, 0, 1);
        x.member(0, 1);
        x.member(1, 2);
        x.member(2, 4);
        x.member(3, 8);
        x.member(4, 8);
        press(x, 0, 0, 0);
        press(x, 1, 1, 0);
        press(x, 2, 2, 0);
        press(x, 3, 3, 1);
        press(x, 4, 3, 2);
        C.dueRow("no channel for group 3", what -> x.call(3, what), NONE, NONE, NONE, 2);
        x.release(1);
        x.tick(3);
        C.due("channel 2 of group 1, for the one with the higher priority", x.call(3, 1), 4);
        C.dueRow("group 3", what -> x.call(3, what), 2, 4, x.tick(0) / 4, 1);
        C.due("CEASE first", x.saying(1, 0), Checks.block(Checks.CEASE, 0, 1, 2, 0));
        C.due("GRANT behind it", x.saying(1, 1), Checks.block(Checks.GRANT, 4, 3, 2, 0));
        C.due("GRANT in cell 0", x.saying(0, 0), Checks.block(Checks.GRANT, 4, 3, 2, 0));
        C.due("none in cell 2", x.saying(2, 0), NONE);
    }

    /** "from 0 on, each group without a call is served" */
    private static void promise15AnyGroupMayBeTheFourth() {
        for (int last = 0; last < 4; last++) {
            TrunkCells x = Checks.withMobilesIn(0, 1, 2, 0);
            for (int m = 0; m < 4; m++) {
                x.member(m, 1 << (last + 1 + m) % 4);
            }
            for (int m = 0; m < 4; m++) {
                press(x, m, (last + 1 + m) % 4, 0);
            }
            C.due("no channel for group " + last, x.call(last, 0), NONE);
            C.due("it waits", x.waiting(last, 0), 12);
            x.tick(4 * 4);
            C.due("the first call has its time yet", x.call(last, 0), NONE);
            x.tick(4);
            C.dueRow("nobody waits", g -> x.call(g, 3), 0, 0, 0, 0);
            C.due("channel 1 for group " + last, x.call(last, 0), 1);
            C.due("holder", x.call(last, 1), 3);
        }
    }

    /** "each group without a call is served": no other, though somebody be in its row */
    private static void promise15OtherCallsGoOn() {
        for (int ended = 0; ended < 2; ended++) {
            TrunkCells x = membersOfAll(0, 1, 2);
            x.member(0, 1);
            x.member(1, 2);
            x.member(2, 3);
            int frame = x.tick(0) / 4;
            x.press(0, 0, 0);
            x.press(1, 1, 0);
            x.tick(8);
            int other = 1 - ended;
            press(x, 2, other, 3);
            x.release(ended);
            x.tick(4);
            C.due("the call of group " + ended + " has ended", x.call(ended, 0), NONE);
            C.dueRow("the other goes on", what -> x.call(other, what), other + 1, other, frame, 1);
        }
    }

    /** "each call, from group 0 on" */
    private static void promise13LongTurnsEndFromGroup0On() {
        TrunkCells x = Checks.withMobilesIn(0, 1, 2, 0);
        x.member(0, 1);
        x.member(1, 6);
        x.member(2, 4);
        x.member(3, 8);
        x.press(0, 0, 0);
        x.press(1, 1, 0);
        x.press(2, 2, 0);
        x.tick(4);
        C.dueRow("channels", g -> x.call(g, 0), 1, 2, 3, NONE);
        press(x, 3, 3, 0);
        x.tick(28);
        C.dueRow("three ended, and group 3 got the first channel", g -> x.call(g, 0), NONE, NONE, NONE, 1);
        C.due("cell 0: CEASE", x.saying(0, 0), Checks.block(Checks.CEASE, 0, 0, 1, 0));
        C.due("cell 0: GRANT", x.saying(0, 1), Checks.block(Checks.GRANT, 3, 3, 1, 0));
        C.due("cell 1: CEASE of 1", x.saying(1, 0), Checks.block(Checks.CEASE, 0, 1, 2, 0));
        C.due("cell 1: CEASE of 2, then", x.saying(1, 1), Checks.block(Checks.CEASE, 0, 2, 3, 0));
    }

    /** Has a mobile of cell 0 decode a control block in the next control slot, in place of some DATA for mobile 7. */
    private static void hears(TrunkCells x, int mobile, int block) {
        Checks.toFrame(x);
        x.send(6, 7, 0);
        x.tick(4);
        x.fault(3 + mobile, Checks.turning(Checks.block(Checks.DATA_DOWN, 7, 1, 2, 0), block));
        x.tick(1);
    }

    private static TrunkCells hearing() {
        TrunkCells x = Checks.withMobilesIn(NONE, NONE, NONE, NONE, NONE, NONE, 1, 0);
        // It is not registered, so that nothing comes of its own REQUEST.
        x.move(0, 0);
        x.member(0, 7);
        return x;
    }

    /** "GRANT of a group of which it is a member: if it is MOBILE and presses for that group ...; else, if ..." */
    private static void promise13GrantsAndMobiles() {
        TrunkCells x = hearing();
        hears(x, 0, Checks.block(Checks.GRANT, 3, 3, 1, 0));
        C.due("not its group", x.mobile(0, 1), 0);
        hears(x, 0, Checks.block(Checks.GRANT, 0, 1, 2, 0));
        C.dueRow("named, but it does not press", i -> x.mobile(0, 1 + i), 2, 2, 1);
        hears(x, 0, Checks.block(Checks.GRANT, 3, 0, 3, 5));
        C.dueRow("listening: goes to the other call", i -> x.mobile(0, 1 + i), 2, 3, 0);
        x.press(0, 2, 0);
        hears(x, 0, Checks.block(Checks.GRANT, 0, 1, 1, 0));
        C.dueRow("named, but it presses for another", i -> x.mobile(0, 1 + i), 2, 1, 1);
        hears(x, 0, Checks.block(Checks.GRANT, 0, 2, 3, 0));
        C.dueRow("named, and presses for it", i -> x.mobile(0, 1 + i), 1, 3, 2);
        hears(x, 0, Checks.block(Checks.GRANT, 5, 1, 1, 0));
        C.dueRow("talking: stays", i -> x.mobile(0, 1 + i), 1, 3, 2);
        hears(x, 0, Checks.block(Checks.GRANT, 5, 2, 1, 0));
        C.dueRow("talking: another has the floor of this call", i -> x.mobile(0, 1 + i), 2, 1, 2);
        C.due("it presses on", x.mobile(0, 4), 2);
    }

    /** "CEASE of the group in whose call it is: it is idle." */
    private static void promise13CeaseMakesIdle() {
        TrunkCells x = hearing();
        hears(x, 0, Checks.block(Checks.GRANT, 5, 1, 2, 0));
        C.due("listening", x.mobile(0, 1), 2);
        hears(x, 0, Checks.block(Checks.CEASE, 0, 2, 2, 0));
        C.dueRow("another group's", i -> x.mobile(0, 1 + i), 2, 2, 1);
        x.member(0, 0);
        hears(x, 0, Checks.block(Checks.CEASE, 3, 1, 0, 7));
        C.dueRow("its call's group's", i -> x.mobile(0, 1 + i), 0, NONE, NONE);
        for (int kind : new int[] {0, 1, 2, 3, 12, 15}) {
            x.member(0, 15);
            hears(x, 0, Checks.block(kind, 0, 1, 1, 0));
            C.dueRow("kind " + kind, i -> x.mobile(0, 1 + i), 0, NONE, NONE);
            C.due("no data", x.mobile(0, 10), 0);
        }
    }
}
