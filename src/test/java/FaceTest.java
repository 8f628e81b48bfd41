/** Promises 1 to 12 and 14 to 17, each call by itself: what it changes at once, its edges, and wrong inputs. */
public final class FaceTest {
    private static final Checks C = new Checks("FaceTest");
    private static final int NONE = Checks.NONE;
    private static final int[] WRONG_MOBILES = {-1, 8, Integer.MIN_VALUE, Integer.MAX_VALUE};

    public static void main(String[] args) {
        promise1NewObject();
        promise1AllKeysAndSpeechAre0();
        promises2To4WrongInputs();
        promise5Move();
        promise5WrongInputs();
        promise6Register();
        promise7Press();
        promise7PriorityIsTwoBits();
        promise8Release();
        promise9Send();
        promise9DataIsNineBits();
        promise10WrongInputs();
        promise11Draw();
        promise12WrongInputs();
        promises14To17WrongInputs();
        C.end();
    }

    /** "All is as told; time is 0, nobody is registered." */
    private static void promise1NewObject() {
        TrunkCells x = new TrunkCells();
        C.due("NONE", TrunkCells.NONE, -1);
        C.due("time", x.tick(0), 0);
        for (int m = 0; m < 8; m++) {
            int mobile = m;
            C.dueRow("new mobile " + m, what -> x.mobile(mobile, what),
                    NONE, 0, NONE, NONE, NONE, 0, 0, 0, 0, NONE, 0, NONE, 0, NONE, NONE);
        }
        for (int g = 0; g < 4; g++) {
            int group = g;
            C.dueRow("new group " + g, what -> x.call(group, what), NONE, NONE, NONE, 0, NONE);
            C.due("new row", x.waiting(g, 0), NONE);
        }
        for (int c = 0; c < 3; c++) {
            C.due("new cell", x.saying(c, 0), NONE);
        }
    }

    /** "keys and what is spoken are 0" */
    private static void promise1AllKeysAndSpeechAre0() {
        TrunkCells x = new TrunkCells();
        x.move(3, 1);
        x.register(3);
        x.fault(1, Checks.turning(Checks.block(1, 3, 0, 0, Checks.mix(0, 0) % 512), Checks.block(1, 5, 0, 0,
                Checks.mix(0, 0) % 512)));
        x.tick(1);
        C.due("REGISTER was sent with key 0, and the switch has key 0", x.mobile(5, 13), 1);
        TrunkCells y = talkingAndListening();
        y.tick(4);
        C.due("what is spoken at first", y.mobile(1, 9), 0);
    }

    /** Mobile 0 talks and mobile 1 listens on channel 1 in group 0's call, both in cell 0; before a slot 0. */
    private static TrunkCells talkingAndListening() {
        TrunkCells x = Checks.withMobilesIn(0, 0);
        x.member(0, 1);
        x.member(1, 1);
        x.press(0, 0, 0);
        x.tick(8);
        return x;
    }

    private static void promises2To4WrongInputs() {
        TrunkCells x = new TrunkCells();
        for (int m : WRONG_MOBILES) {
            C.dueIndex("keys of " + m, () -> x.keys(m, 1, 1));
            C.dueIndex("member of " + m, () -> x.member(m, 1));
        }
        for (int g : new int[] {-1, 4, Integer.MIN_VALUE, Integer.MAX_VALUE}) {
            C.dueIndex("group of " + g, () -> x.group(g, 1));
        }
        C.dueThrow("keys of 7", null, () -> x.keys(7, Integer.MIN_VALUE, Integer.MAX_VALUE));
        C.dueThrow("member of 7", null, () -> x.member(7, -1));
        C.dueThrow("group of 3", null, () -> x.group(3, -1));
    }

    private static void promise5Move() {
        TrunkCells x = talkingAndListening();
        x.tick(4);
        x.draw(1, 5);
        x.send(1, 1, 9);
        int heard = x.mobile(1, 8);
        C.due("it has heard something", heard > 0 ? 1 : 0, 1);
        x.move(1, 0);
        C.dueRow("moved to the same cell", what -> x.mobile(1, what),
                0, 0, NONE, NONE, NONE, 0, 0, 0, heard, 0, 0, NONE, 1, 0);
        x.move(0, 2);
        C.dueRow("moved when talking", what -> x.mobile(0, what), 2, 0, NONE, NONE, NONE, 0, 0, 0, 0, NONE);
        C.due("the switch has it where it was", x.mobile(0, 13), 0);
        C.due("its call goes on", x.call(0, 1), 0);
        x.move(0, NONE);
        C.due("off", x.mobile(0, 0), NONE);
        C.due("the switch has it still", x.mobile(0, 13), 0);
    }

    private static void promise5WrongInputs() {
        TrunkCells x = new TrunkCells();
        for (int m : WRONG_MOBILES) {
            C.dueIndex("move of " + m, () -> x.move(m, 0));
        }
        for (int cell : new int[] {-2, 3, Integer.MIN_VALUE, Integer.MAX_VALUE}) {
            C.dueIndex("move to " + cell, () -> x.move(0, cell));
        }
        x.move(0, 2);
        x.register(0);
        C.dueIndex("move to 3", () -> x.move(0, 3));
        C.due("it is where it was", x.mobile(0, 0), 2);
        C.due("its message is there", x.mobile(0, 5), Checks.REGISTER);
    }

    private static void promise6Register() {
        TrunkCells x = new TrunkCells();
        for (int m : WRONG_MOBILES) {
            C.dueIndex("register of " + m, () -> x.register(m));
        }
        C.dueState("register when off", () -> x.register(0));
        x.move(0, 0);
        x.register(0);
        C.dueRow("message", i -> x.mobile(0, 5 + i), Checks.REGISTER, 0, 0);
        C.dueState("register twice", () -> x.register(0));
        C.dueState("send behind it", () -> x.send(0, 1, 1));
        C.dueState("press behind it", () -> x.press(0, 1, 1));
        C.due("presses for none", x.mobile(0, 4), NONE);
    }

    private static void promise7Press() {
        TrunkCells x = new TrunkCells();
        for (int m : WRONG_MOBILES) {
            C.dueIndex("press of " + m, () -> x.press(m, 0, 0));
        }
        C.dueIndex("press for -1", () -> x.press(0, -1, 0));
        C.dueIndex("press for 4, when off", () -> x.press(0, 4, 0));
        C.dueState("press when off", () -> x.press(0, 3, 0));
        x.move(0, 0);
        C.dueThrow("press of no member", null, () -> x.press(0, 3, 0));
        C.dueRow("pressing", i -> x.mobile(0, 4 + i), 3, Checks.REQUEST, 0, 0);
        C.dueState("press with a message", () -> x.press(0, 3, 0));
        x.tick(4);
        C.due("REQUEST was taken", x.mobile(0, 5), 0);
        C.dueState("press while pressing", () -> x.press(0, 1, 0));
        C.due("the group is as it was", x.mobile(0, 4), 3);
        C.dueThrow("register while pressing", null, () -> x.register(0));
        C.due("a member of no group does not come into its row", x.call(3, 3) + x.call(3, 0), NONE);
    }

    private static void promise7PriorityIsTwoBits() {
        int[][] told = {{0, 0}, {3, 3}, {4, 0}, {9, 1}, {-1, 3}, {-2, 2}};
        for (int[] pair : told) {
            TrunkCells x = Checks.withMobilesIn(0, 0);
            x.member(0, 4);
            x.member(1, 4);
            x.press(0, 2, 0);
            x.tick(4);
            x.press(1, 2, pair[0]);
            x.tick(4);
            C.due("waiting with priority " + pair[0], x.waiting(2, 0), 4 + pair[1]);
        }
    }

    private static void promise8Release() {
        TrunkCells x = new TrunkCells();
        for (int m : WRONG_MOBILES) {
            C.dueIndex("release of " + m, () -> x.release(m));
        }
        C.dueThrow("release when off", null, () -> x.release(0));
        x.move(0, 0);
        x.press(0, 1, 1);
        x.release(0);
        C.dueRow("released", i -> x.mobile(0, 4 + i), NONE, 0, 0, 0);
        x.register(0);
        x.release(0);
        C.due("REGISTER stays", x.mobile(0, 5), Checks.REGISTER);
        x.tick(4);
        x.press(0, 1, 1);
        x.tick(4);
        x.send(0, 0, 1);
        x.release(0);
        C.due("DATA stays", x.mobile(0, 5), Checks.DATA);
        C.due("but it presses no more", x.mobile(0, 4), NONE);
    }

    private static void promise9Send() {
        TrunkCells x = new TrunkCells();
        for (int m : WRONG_MOBILES) {
            C.dueIndex("send of " + m, () -> x.send(m, 0, 0));
            C.dueIndex("send to " + m + ", when off", () -> x.send(0, m, 0));
        }
        C.dueState("send when off", () -> x.send(0, 1, 1));
        x.move(0, 0);
        x.send(0, 7, 1);
        C.dueRow("message", i -> x.mobile(0, 5 + i), Checks.DATA, 0, 0);
        C.dueState("send twice", () -> x.send(0, 1, 1));
        C.dueState("register behind it", () -> x.register(0));
    }

    private static void promise9DataIsNineBits() {
        int[][] told = {{0, 0}, {511, 511}, {512, 0}, {-1, 511}, {1000, 488}};
        for (int[] pair : told) {
            TrunkCells x = Checks.withMobilesIn(NONE, NONE, NONE, NONE, NONE, 0, 1);
            x.send(6, 5, pair[0]);
            x.tick(4);
            C.due("cell 0 has it to say", x.saying(0, 0), Checks.block(Checks.DATA_DOWN, 5, 1, 2, pair[1]));
            x.tick(4);
            C.due("data " + pair[0], x.mobile(5, 11), 16 * pair[1] + 6);
            C.due("how many", x.mobile(5, 10), 1);
            C.due("nothing for the other", x.mobile(6, 10), 0);
        }
        TrunkCells y = Checks.withMobilesIn(0);
        y.send(0, 0, 3);
        y.tick(8);
        C.due("for itself", y.mobile(0, 11), 48);
    }

    private static void promise10WrongInputs() {
        TrunkCells x = new TrunkCells();
        for (int m : WRONG_MOBILES) {
            C.dueIndex("speak of " + m, () -> x.speak(m, 1));
        }
        C.dueThrow("speak when off", null, () -> x.speak(7, -1));
    }

    private static void promise11Draw() {
        TrunkCells x = new TrunkCells();
        for (int m : WRONG_MOBILES) {
            C.dueIndex("draw of " + m, () -> x.draw(m, 0));
            C.dueIndex("wrong draw of " + m, () -> x.draw(m, 16));
        }
        C.dueArgument("draw -1", () -> x.draw(0, -1));
        C.dueArgument("draw 16", () -> x.draw(0, 16));
        for (int i = 0; i < 8; i++) {
            C.due("draws", x.mobile(0, 12), i);
            x.draw(0, i % 2 * 15);
        }
        C.dueState("draw 9", () -> x.draw(0, 0));
        C.dueArgument("a wrong one then", () -> x.draw(0, 16));
        C.due("draws", x.mobile(0, 12), 8);
        C.due("another's", x.mobile(1, 12), 0);
    }

    private static void promise12WrongInputs() {
        TrunkCells x = new TrunkCells();
        for (int at : new int[] {-1, 11, Integer.MIN_VALUE, Integer.MAX_VALUE}) {
            C.dueIndex("fault at " + at, () -> x.fault(at, 1));
        }
        C.dueThrow("fault at 0", null, () -> x.fault(0, -1));
        C.dueThrow("fault at 10", null, () -> x.fault(10, Long.MIN_VALUE));
    }

    private static void promises14To17WrongInputs() {
        TrunkCells x = Checks.withMobilesIn(0, 1);
        x.member(0, 1);
        x.member(1, 1);
        x.press(0, 0, 1);
        x.press(1, 0, 1);
        x.tick(1);
        for (int wrong : new int[] {-1, Integer.MIN_VALUE, Integer.MAX_VALUE}) {
            C.due("mobile " + wrong, x.mobile(wrong, 0), NONE);
            C.due("mobile what " + wrong, x.mobile(0, wrong), NONE);
            C.due("call " + wrong, x.call(wrong, 3), NONE);
            C.due("call what " + wrong, x.call(0, wrong), NONE);
            C.due("waiting " + wrong, x.waiting(wrong, 0), NONE);
            C.due("waiting k " + wrong, x.waiting(0, wrong), NONE);
            C.due("saying " + wrong, x.saying(wrong, 0), NONE);
            C.due("saying k " + wrong, x.saying(0, wrong), NONE);
        }
        C.due("mobile 8", x.mobile(8, 0), NONE);
        C.due("mobile 8, its place", x.mobile(8, 13), NONE);
        C.due("mobile what 14", x.mobile(0, 14), NONE);
        C.due("call 4", x.call(4, 3), NONE);
        C.due("call what 4", x.call(0, 4), NONE);
        C.due("waiting 4", x.waiting(4, 0), NONE);
        C.due("waiting, the first", x.waiting(0, 0), 5);
        C.due("waiting, behind the last", x.waiting(0, 1), NONE);
        C.due("saying 3", x.saying(3, 0), NONE);
        C.due("saying, the first", x.saying(0, 0), Checks.block(Checks.GRANT, 0, 0, 1, 0));
        C.due("saying, behind the last", x.saying(0, 1), NONE);
    }
}
