/** Promises 3, 8, 10, 12 and 13 in the traffic slots: speech, its keys and faults, and letting go of the floor. */
public final class TrafficTest {
    private static final Checks C = new Checks("TrafficTest");
    private static final int NONE = Checks.NONE;
    private static final int LETTING_GO = 1 << 19;
    private static final int SPEECH = (1 << 19) - 1;

    public static void main(String[] args) {
        promise10SpeechIsNineteenBits();
        promise10SpeechComesToAllCells();
        promise3ListenersTakeTheirCallsKeyOff();
        promise3TalkersPutTheirCallsKeyOn();
        promise13SpeechHasItsSlot();
        promise12LostSpeech();
        promise12FaultOfTheTalkersCell();
        promise12ListenerLosesTheHighestBit();
        promise8LettingGoEndsTheCall();
        promise8LettingGoMayBeLost();
        promise8LettingGoHandsOn();
        promise13SpeechTurnedIntoLettingGo();
        promise13TalkingWithoutACall();
        promise13LowestOfSeveralTalkers();
        C.end();
    }

    /** Mobile 0 (cell 0) talks, 1 (cell 1) and 2 (cell 2) listen in group 2's call, on channel 1; before a slot 0. */
    private static TrunkCells talking(int key) {
        TrunkCells x = Checks.withMobilesIn(0, 1, 2);
        for (int m = 0; m < 3; m++) {
            x.member(m, 4);
        }
        x.group(2, key);
        x.press(0, 2, 0);
        x.tick(5);
        Checks.toFrame(x);
        return x;
    }

    /** "the lowest 19 bits of speech" */
    private static void promise10SpeechIsNineteenBits() {
        int[][] told = {{0, 0}, {12345, 12345}, {SPEECH, SPEECH}, {1 << 19, 0}, {-1, SPEECH}, {(1 << 25) + 7, 7}};
        for (int[] pair : told) {
            TrunkCells x = talking(99);
            int before = x.mobile(1, 8);
            x.speak(0, pair[0]);
            x.tick(4);
            C.due("heard of " + pair[0], x.mobile(1, 9), pair[1]);
            C.due("one block more", x.mobile(1, 8), before + 1);
            C.due("the call goes on", x.call(2, 1), 0);
        }
    }

    /** "else it is sent on in all cells, in their colours" */
    private static void promise10SpeechComesToAllCells() {
        TrunkCells x = talking(5);
        x.speak(0, 1234);
        x.tick(4);
        C.due("cell 1", x.mobile(1, 9), 1234);
        C.due("cell 2", x.mobile(2, 9), 1234);
        C.due("not the talker", x.mobile(0, 8), 0);
        x.speak(0, 77);
        x.tick(4);
        C.due("from now on", x.mobile(1, 9), 77);
    }

    /** "with its call's group's key taken off again" */
    private static void promise3ListenersTakeTheirCallsKeyOff() {
        // Mobile 1 decodes a GRANT of group 3 on channel 1, and listens there with group 3's key.
        TrunkCells x = talking(7);
        x.member(1, 12);
        x.group(3, 8);
        x.send(1, 1, 0);
        x.tick(4);
        x.fault(4, Checks.turning(Checks.block(Checks.DATA_DOWN, 1, 0, 1, 0), Checks.block(Checks.GRANT, 0, 3, 1, 0)));
        x.speak(0, 600);
        x.tick(1);
        int frame = x.tick(0) / 4;
        C.due("in group 3's call", x.mobile(1, 3), 3);
        x.tick(3);
        C.due("mobile 1", x.mobile(1, 9), (600 ^ Checks.mix(7, frame) ^ Checks.mix(8, frame)) & SPEECH);
        C.due("mobile 2", x.mobile(2, 9), 600);
    }

    /** "(The mobile's group: that in whose call it is.)", whatever call is on its channel */
    private static void promise3TalkersPutTheirCallsKeyOn() {
        TrunkCells x = talking(7);
        x.group(1, 8);
        x.move(0, 0);
        x.move(5, 0);
        x.member(0, 2);
        x.speak(0, 600);
        x.press(0, 1, 0);
        x.tick(4);
        Checks.hears(x, 5, 0, Checks.block(Checks.GRANT, 0, 1, 1, 0));
        C.dueRow("talks in group 1's call", i -> x.mobile(0, 1 + i), 1, 1, 1);
        C.due("on the channel of group 2's", x.call(2, 0), 1);
        int frame = x.tick(1) / 4;
        C.due("heard in group 2's", x.mobile(1, 9), (600 ^ Checks.mix(7, frame) ^ Checks.mix(8, frame)) & SPEECH);
    }

    /** "In slot s 1 .. 3: if a mobile is talking on channel s" */
    private static void promise13SpeechHasItsSlot() {
        for (int group = 0; group < 3; group++) {
            TrunkCells x = Checks.withMobilesIn(0, 0, 0, 1);
            for (int m = 0; m < 3; m++) {
                x.member(m, 1 << m);
            }
            x.member(3, 1 << group);
            for (int m = 0; m < 3; m++) {
                x.speak(m, 50 + m);
                x.press(m, m, 0);
                x.tick(4);
            }
            Checks.toFrame(x);
            x.tick(8);
            int channel = group + 1;
            C.dueRow("listens", i -> x.mobile(3, 1 + i), 2, channel, channel - 1);
            int before = x.mobile(3, 8);
            for (int slot = 0; slot < 4; slot++) {
                x.tick(1);
                C.due("heard in slot " + slot, x.mobile(3, 8), before + (slot >= channel ? 1 : 0));
            }
            C.due("heard", x.mobile(3, 9), 50 + group);
        }
    }

    /** "If it is not lost", in the cell and in the mobile */
    private static void promise12LostSpeech() {
        TrunkCells x = talking(0);
        x.speak(0, 9);
        x.tick(1);
        int before1 = x.mobile(1, 8);
        int before2 = x.mobile(2, 8);
        x.fault(4, Checks.ALL_PLACES);
        x.tick(4);
        C.due("lost by mobile 1", x.mobile(1, 8), before1);
        C.due("not by mobile 2", x.mobile(2, 8), before2 + 1);
        x.fault(0, Checks.ALL_PLACES);
        x.tick(4);
        C.due("lost by the cell", x.mobile(1, 8), before1);
        C.due("for all", x.mobile(2, 8), before2 + 1);
        x.fault(1, Checks.ALL_PLACES);
        x.tick(4);
        C.due("other cells get nothing from it", x.mobile(1, 8), before1 + 1);
    }

    /** "Its cell gets that.": with that cell's fault, and no other's */
    private static void promise12FaultOfTheTalkersCell() {
        for (int cell = 0; cell < 3; cell++) {
            for (int at = 0; at < 3; at++) {
                TrunkCells x = Checks.withMobilesIn(cell, 1);
                x.member(0, 1);
                x.member(1, 1);
                x.press(0, 0, 0);
                x.tick(9);
                int heard = x.mobile(1, 8);
                x.fault(at, Checks.ALL_PLACES);
                x.tick(4);
                C.due("talker in " + cell + ", fault in " + at, x.mobile(1, 8), heard + (at == cell ? 0 : 1));
            }
        }
    }

    /** "it has heard its lowest 19 bits" */
    private static void promise12ListenerLosesTheHighestBit() {
        TrunkCells x = talking(31);
        x.speak(0, 3);
        x.tick(1);
        int mixed = Checks.mix(31, x.tick(0) / 4) & SPEECH;
        x.fault(4, Checks.turning(3 ^ mixed, LETTING_GO | 55));
        x.tick(1);
        C.due("its lowest 19 bits", x.mobile(1, 9), 55 ^ mixed);
        C.due("it listens on", x.mobile(1, 1), 2);
    }

    /** "if it presses for its call's group no more, and is IDLE then" */
    private static void promise8LettingGoEndsTheCall() {
        TrunkCells x = talking(0);
        x.tick(1);
        x.release(0);
        C.due("talking until its slot", x.mobile(0, 1), 1);
        int heard = x.mobile(1, 8);
        x.tick(1);
        C.dueRow("idle then", i -> x.mobile(0, 1 + i), 0, NONE, NONE, NONE);
        C.due("no call", x.call(2, 0), NONE);
        C.due("nothing heard of it", x.mobile(1, 8), heard);
        for (int cell = 0; cell < 3; cell++) {
            C.due("CEASE", x.saying(cell, 0), Checks.block(Checks.CEASE, 0, 2, 1, 0));
        }
        C.due("listening until then", x.mobile(1, 1), 2);
        x.tick(3);
        C.dueRow("idle", i -> x.mobile(1, 1 + i), 0, NONE, NONE);
    }

    /** "if it presses for its call's group no more": for none, or for another */
    private static void promise8LettingGoMayBeLost() {
        TrunkCells x = talking(0);
        x.tick(1);
        x.release(0);
        x.fault(0, Checks.ALL_PLACES);
        x.tick(1);
        C.due("idle all the same", x.mobile(0, 1), 0);
        C.due("the call goes on", x.call(2, 1), 0);
        x.tick(32);
        C.due("until its time is over", x.call(2, 1), NONE);
        TrunkCells y = talking(0);
        y.tick(1);
        y.release(0);
        y.press(0, 1, 0);
        y.tick(1);
        C.due("pressing for another group is letting go", y.mobile(0, 1), 0);
        C.due("no call", y.call(2, 0), NONE);
        TrunkCells z = talking(0);
        z.tick(1);
        z.release(0);
        z.press(0, 2, 0);
        z.tick(1);
        C.due("pressing for it again is not", z.mobile(0, 1), 1);
    }

    /** "If its row is empty ... Else the group is served." */
    private static void promise8LettingGoHandsOn() {
        TrunkCells x = talking(0);
        x.press(1, 2, 1);
        x.press(2, 2, 2);
        x.tick(1);
        C.due("two wait", x.call(2, 3), 2);
        x.release(0);
        x.tick(1);
        C.dueRow("handed on", what -> x.call(2, what), 1, 2, x.tick(0) / 4, 1);
        C.due("GRANT", x.saying(0, 0), Checks.block(Checks.GRANT, 2, 2, 1, 0));
        x.speak(2, 321);
        x.tick(4);
        C.dueRow("0 listens, 2 talks", m -> x.mobile(m, 1), 2, 2, 1);
        C.due("heard by 0", x.mobile(0, 9), 321);
    }

    /** "a highest bit 1: that call is RELEASED" */
    private static void promise13SpeechTurnedIntoLettingGo() {
        TrunkCells x = talking(0);
        x.tick(1);
        int heard = x.mobile(1, 8);
        x.fault(0, Checks.turning(Checks.mix(0, x.tick(0) / 4) & SPEECH, LETTING_GO | 1234));
        x.tick(1);
        C.due("a highest bit 1 is enough", x.call(2, 0), NONE);
        C.due("it is not sent on", x.mobile(1, 8), heard);
        C.due("the talker does not know", x.mobile(0, 1), 1);
        x.tick(3);
        C.due("until CEASE", x.mobile(0, 1), 0);
    }

    /** "and a call is on channel s": if none is, nothing comes of it */
    private static void promise13TalkingWithoutACall() {
        TrunkCells x = talking(0);
        x.tick(1);
        x.fault(0, Checks.turning(Checks.mix(0, x.tick(0) / 4) & SPEECH, LETTING_GO));
        x.tick(1);
        x.fault(3, Checks.ALL_PLACES);
        x.fault(4, Checks.ALL_PLACES);
        x.tick(3);
        C.dueRow("0 and 1 have lost CEASE", m -> x.mobile(m, 1), 1, 2, 0);
        int heard = x.mobile(1, 8);
        x.tick(8);
        C.due("no call, so nothing is sent on", x.mobile(1, 8), heard);
        C.due("it talks on", x.mobile(0, 1), 1);
        x.release(0);
        x.tick(4);
        C.due("idle", x.mobile(0, 1), 0);
        C.due("nothing more to say", x.saying(0, 0), NONE);
    }

    /** "(of several the lowest number)" */
    private static void promise13LowestOfSeveralTalkers() {
        // Mobile 0 loses the GRANT that hands the floor to mobile 1, so both talk.
        TrunkCells x = talking(0);
        x.press(1, 2, 0);
        x.tick(1);
        x.tick(3 + 4 * 4);
        while (x.call(2, 1) == 0) {
            x.tick(4);
        }
        x.fault(3, Checks.ALL_PLACES);
        x.speak(0, 11);
        x.speak(1, 22);
        x.tick(4);
        C.dueRow("two talk", m -> x.mobile(m, 1), 1, 1, 2);
        C.due("the lowest number is heard", x.mobile(2, 9), 11);
        x.release(1);
        x.tick(4);
        C.due("the other does not send, and goes on", x.mobile(1, 1), 1);
        C.due("nor does it let go", x.call(2, 1), 1);
        x.release(0);
        x.tick(4);
        C.due("mobile 0 lets go of mobile 1's floor", x.call(2, 1), NONE);
    }
}
