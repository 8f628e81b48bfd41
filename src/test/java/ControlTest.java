import java.util.Random;

/** Promises 2, 6, 8, 9, 11, 12 and 13 in the control slot: sending, tries and waits, TAKEN, registering, faults. */
public final class ControlTest {
    private static final Checks C = new Checks("ControlTest");
    private static final int NONE = Checks.NONE;

    public static void main(String[] args) {
        promise13TickCountsSlots();
        promise2RightKeyRegisters();
        promise2WrongKeyDoesNot();
        promise2RegisterHangsOnTheFrame();
        promise6RegisteredInOneCellAlone();
        promise11CollisionsWaitForTheirDraws();
        promise11DrawsGoInTheirOrder();
        promise13FiveTriesAndNoMore();
        promise13MessageGoesInItsOwnCell();
        promise12CellFaultLosesTheMessage();
        promise12MobileFaultLosesTheTaken();
        promise12FaultIsReplacedAndEndsWithOneBurst();
        promise12OneFaultIsMended();
        promise12EachPlaceCounts();
        promise13TakenIsForTheMobileThatWasDecoded();
        promise13TakenCountsOnlyForOneThatSent();
        promise13OtherKindsAreNotTaken();
        promise9DataNeedsBothRegistered();
        promise9DataForNobody();
        promise17AtMostEightToSay();
        C.end();
    }

    /** "TIME counts slots" */
    private static void promise13TickCountsSlots() {
        TrunkCells x = new TrunkCells();
        C.due("tick(0)", x.tick(0), 0);
        C.due("tick(1)", x.tick(1), 1);
        C.due("tick(200)", x.tick(200), 201);
        C.dueArgument("tick(201)", () -> x.tick(201));
        C.dueArgument("tick(-1)", () -> x.tick(-1));
        C.dueArgument("tick of the least", () -> x.tick(Integer.MIN_VALUE));
        C.dueArgument("tick of the most", () -> x.tick(Integer.MAX_VALUE));
        C.due("time", x.tick(0), 201);
        TrunkCells y = new TrunkCells();
        y.tick(1);
        y.move(0, 0);
        y.register(0);
        y.tick(3);
        C.due("slots 1 to 3 are not control", y.mobile(0, 5), Checks.REGISTER);
        y.tick(1);
        C.due("slot 0 is", y.mobile(0, 5), 0);
    }

    /** "if REST is the lowest 9 bits of MIX(the key it has, frame), the mobile is REGISTERED in that cell" */
    private static void promise2RightKeyRegisters() {
        for (int key : new int[] {0, 1, -1, 123456789, Integer.MIN_VALUE}) {
            TrunkCells x = new TrunkCells();
            x.keys(2, key, key);
            x.move(2, 2);
            x.register(2);
            x.tick(1);
            C.due("registered with " + key, x.mobile(2, 13), 2);
            C.due("taken", x.mobile(2, 5), 0);
        }
    }

    /** "else nothing" */
    private static void promise2WrongKeyDoesNot() {
        TrunkCells x = new TrunkCells();
        x.keys(0, 1, 2);
        x.move(0, 2);
        x.register(0);
        x.tick(4);
        C.due("not registered", x.mobile(0, 13), NONE);
        C.due("but taken", x.mobile(0, 5), 0);
        x.keys(0, 2, 2);
        x.register(0);
        x.tick(4);
        C.due("registered", x.mobile(0, 13), 2);
        x.keys(0, 2, 1);
        x.move(0, 1);
        x.register(0);
        x.tick(4);
        C.due("where it was before the key was wrong", x.mobile(0, 13), 2);
    }

    /** "(REGISTER with this frame)" */
    private static void promise2RegisterHangsOnTheFrame() {
        int key = 4711;
        int frame = 3;
        int due = Checks.block(Checks.REGISTER, 0, 0, 0, Checks.mix(key, frame) % 512);
        TrunkCells x = new TrunkCells();
        x.keys(0, key, key);
        x.keys(1, 0, 99);
        x.move(0, 0);
        x.register(0);
        x.move(0, 0);
        x.tick(4 * frame);
        x.register(0);
        x.fault(0, Checks.turning(due, Checks.block(Checks.REGISTER, 1, 2, 3, Checks.mix(99, frame) % 512)));
        x.tick(1);
        C.due("REST was the lowest 9 bits of MIX(own key, frame), and is looked at alone", x.mobile(1, 13), 0);
        C.due("not itself", x.mobile(0, 13), NONE);
        C.due("TAKEN was for another", x.mobile(0, 5), Checks.REGISTER);
    }

    /** "(and in no other)" */
    private static void promise6RegisteredInOneCellAlone() {
        TrunkCells x = Checks.withMobilesIn(0);
        x.move(0, 1);
        C.due("still in cell 0", x.mobile(0, 13), 0);
        x.register(0);
        x.tick(4);
        C.due("now in cell 1", x.mobile(0, 13), 1);
        x.member(0, 1);
        x.press(0, 0, 0);
        x.tick(1);
        C.due("cell 0 has nothing for it", x.saying(0, 0), NONE);
        C.due("cell 1 has", x.saying(1, 0), Checks.block(Checks.GRANT, 0, 0, 1, 0));
    }

    /** "If just one sends": two or more are no burst, and wait */
    private static void promise11CollisionsWaitForTheirDraws() {
        TrunkCells x = new TrunkCells();
        x.move(0, 0);
        x.move(1, 0);
        x.move(2, 0);
        x.register(0);
        x.register(1);
        x.register(2);
        x.draw(1, 3);
        x.draw(1, 0);
        x.draw(2, 0);
        x.draw(2, 15);
        Checks.frame(x);
        C.dueRow("mobile 0: tries, wait", i -> x.mobile(0, 6 + i), 1, 1);
        C.dueRow("mobile 1: tries, wait", i -> x.mobile(1, 6 + i), 1, 3);
        C.dueRow("mobile 2: tries, wait", i -> x.mobile(2, 6 + i), 1, 0);
        C.due("draws of 1", x.mobile(1, 12), 1);
        C.due("nobody is registered", x.mobile(0, 13) + x.mobile(1, 13) + x.mobile(2, 13), 3 * NONE);
        Checks.frame(x);
        C.due("mobile 2 was alone", x.mobile(2, 13), 0);
        C.due("and keeps its draw", x.mobile(2, 12), 1);
        C.dueRow("mobile 0: tries, wait", i -> x.mobile(0, 6 + i), 1, 0);
        C.dueRow("mobile 1: tries, wait", i -> x.mobile(1, 6 + i), 1, 2);
        C.due("mobile 0 is not yet registered", x.mobile(0, 13), NONE);
        Checks.frame(x);
        C.due("mobile 0 is registered", x.mobile(0, 13), 0);
        C.dueRow("without a message", i -> x.mobile(0, 5 + i), 0, 0, 0);
        x.tick(4);
        C.due("mobile 1 is not yet", x.mobile(1, 13), NONE);
        x.tick(4);
        C.due("mobile 1 is registered", x.mobile(1, 13), 0);
        C.due("and keeps its draw", x.mobile(1, 12), 1);
    }

    /** "its wait is its first draw (which is gone then)" */
    private static void promise11DrawsGoInTheirOrder() {
        TrunkCells x = new TrunkCells();
        int[] draws = {4, 0, 15, 2};
        for (int draw : draws) {
            x.draw(0, draw);
        }
        x.move(0, 0);
        x.register(0);
        for (int i = 0; i < draws.length; i++) {
            x.fault(0, Checks.ALL_PLACES);
            x.tick(4);
            C.due("tries", x.mobile(0, 6), i + 1);
            C.due("wait", x.mobile(0, 7), draws[i]);
            C.due("draws", x.mobile(0, 12), draws.length - 1 - i);
            x.tick(4 * draws[i]);
            C.due("it has waited", x.mobile(0, 7), 0);
        }
        x.tick(4);
        C.due("registered", x.mobile(0, 13), 0);
        x.register(0);
        C.due("wait of a new message", x.mobile(0, 7), 0);
        TrunkCells y = new TrunkCells();
        y.move(0, 0);
        y.register(0);
        y.draw(0, 9);
        y.fault(0, Checks.ALL_PLACES);
        y.tick(4);
        y.move(0, 0);
        C.due("moved away from its wait", y.mobile(0, 7), 0);
        y.register(0);
        C.due("tries of a new message", y.mobile(0, 6), 0);
        y.tick(4);
        C.due("registered at once", y.mobile(0, 13), 0);
    }

    /** "at 5 the message is gone (it may press on)" */
    private static void promise13FiveTriesAndNoMore() {
        TrunkCells x = new TrunkCells();
        x.move(0, 0);
        x.move(1, 0);
        for (int m = 0; m < 2; m++) {
            x.press(m, 2, 0);
            for (int i = 0; i < 6; i++) {
                x.draw(m, 0);
            }
        }
        for (int tries = 1; tries < 5; tries++) {
            x.tick(4);
            C.due("tries", x.mobile(0, 6), tries);
            C.due("kind", x.mobile(0, 5), Checks.REQUEST);
        }
        x.tick(4);
        C.dueRow("gone at 5", i -> x.mobile(0, 5 + i), 0, 0, 0);
        C.due("it presses on", x.mobile(0, 4), 2);
        C.due("the last try takes no draw", x.mobile(0, 12), 2);
        x.register(0);
        C.dueRow("a new message", i -> x.mobile(0, 5 + i), Checks.REGISTER, 0, 0);
    }

    /** "The mobiles in the cell that have a message" */
    private static void promise13MessageGoesInItsOwnCell() {
        TrunkCells x = new TrunkCells();
        for (int m = 0; m < 3; m++) {
            x.move(m, 2 - m);
            x.register(m);
        }
        x.tick(1);
        C.dueRow("no collision between cells", m -> x.mobile(m, 13), 2, 1, 0);
    }

    /** "FAULTS: for each cell": what is lost is not taken */
    private static void promise12CellFaultLosesTheMessage() {
        TrunkCells x = new TrunkCells();
        x.move(0, 1);
        x.register(0);
        x.fault(1, Checks.ALL_PLACES);
        x.tick(4);
        C.dueRow("not taken", i -> x.mobile(0, 5 + i), Checks.REGISTER, 1, 1);
        C.due("not registered", x.mobile(0, 13), NONE);
        x.tick(8);
        C.due("registered then", x.mobile(0, 13), 1);
    }

    /** "and for each mobile": it decodes nothing, and sends once more */
    private static void promise12MobileFaultLosesTheTaken() {
        TrunkCells x = new TrunkCells();
        x.move(7, 0);
        x.register(7);
        x.fault(10, Checks.ALL_PLACES);
        x.tick(4);
        C.due("registered", x.mobile(7, 13), 0);
        C.dueRow("but it does not know", i -> x.mobile(7, 5 + i), Checks.REGISTER, 1, 1);
        x.tick(8);
        C.due("it sends once more", x.mobile(7, 5), 0);
    }

    /** "places at which the next burst it gets is turned about; then it is 0" */
    private static void promise12FaultIsReplacedAndEndsWithOneBurst() {
        TrunkCells x = new TrunkCells();
        x.move(0, 0);
        x.register(0);
        x.fault(0, Checks.ALL_PLACES);
        x.fault(0, 1L << 54);
        x.fault(2, Checks.ALL_PLACES);
        x.tick(4);
        C.due("in place of what it was, places 0 to 53 alone", x.mobile(0, 13), 0);
        x.move(1, 0);
        x.move(2, 0);
        x.register(1);
        x.register(2);
        x.fault(0, Checks.ALL_PLACES);
        x.draw(1, 0);
        x.tick(4);
        x.tick(4);
        C.due("two at once are no burst: the fault was kept for the next", x.mobile(1, 13), NONE);
        x.tick(4);
        C.due("and hurts no other", x.mobile(2, 13), 0);
    }

    /** "the one whose burst is unlike them at the fewest places" */
    private static void promise12OneFaultIsMended() {
        TrunkCells x = new TrunkCells();
        x.move(0, 0);
        x.register(0);
        x.fault(0, 1L << 53);
        x.fault(3, 1L);
        x.tick(1);
        C.due("registered", x.mobile(0, 13), 0);
        C.due("taken", x.mobile(0, 5), 0);
    }

    /** "a pattern of 54 bits" */
    private static void promise12EachPlaceCounts() {
        int sent = Checks.block(Checks.DATA, 0, 0, 0, 9);
        Random random = new Random(12);
        for (int place = 0; place < 54; place++) {
            // A fault that is mended without this place, and is one too many with it.
            long mended;
            do {
                mended = 0;
                for (int i = 0; i < 4; i++) {
                    mended |= 1L << random.nextInt(54);
                }
                mended &= ~(1L << place);
            } while (!isMended(sent, mended) || isMended(sent, mended | 1L << place));
            C.due("mended", kindAfterFault(mended), 0);
            C.due("not with place " + place, kindAfterFault(mended | 1L << place), Checks.DATA);
        }
    }

    private static boolean isMended(int block, long fault) {
        return ModelCode.decoded(ModelCode.coded(block, 1) ^ fault, 1) == block;
    }

    private static int kindAfterFault(long fault) {
        TrunkCells x = Checks.withMobilesIn(0);
        x.send(0, 0, 9);
        x.fault(0, fault);
        x.tick(1);
        return x.mobile(0, 5);
    }

    /** "TAKEN for its MOBILE": that of the block that was decoded */
    private static void promise13TakenIsForTheMobileThatWasDecoded() {
        TrunkCells x = Checks.withMobilesIn(0, 0);
        int sent = Checks.block(Checks.DATA, 0, 0, 1, 77);
        x.send(0, 1, 77);
        x.fault(0, Checks.turning(sent, Checks.block(Checks.DATA, 1, 0, 0, 78)));
        x.tick(4);
        C.dueRow("0 has its message still", i -> x.mobile(0, 5 + i), Checks.DATA, 1, 1);
        C.due("what was decoded is passed on", x.saying(0, 0), Checks.block(Checks.DATA_DOWN, 0, 0, 1, 78));
        x.tick(4);
        C.due("data came", x.mobile(0, 11), 16 * 78 + 1);
    }

    /** "its message is gone (if it sent in this slot)" */
    private static void promise13TakenCountsOnlyForOneThatSent() {
        TrunkCells x = Checks.withMobilesIn(0, 0);
        x.register(1);
        x.register(0);
        x.draw(0, 0);
        x.draw(1, 1);
        x.tick(4);
        int taken = Checks.block(Checks.TAKEN, 0, 0, 0, 0);
        x.fault(4, Checks.turning(taken, Checks.block(Checks.TAKEN, 1, 0, 0, 0)));
        x.tick(4);
        C.due("0 was taken", x.mobile(0, 5), 0);
        C.dueRow("1 did not send, so it was not meant", i -> x.mobile(1, 5 + i), Checks.REGISTER, 1, 0);
        x.fault(4, Checks.turning(Checks.block(Checks.TAKEN, 1, 0, 0, 0), Checks.block(Checks.TAKEN, 1, 3, 2, 99)));
        x.tick(4);
        C.due("only KIND and MOBILE of TAKEN count", x.mobile(1, 5), 0);
    }

    /** "and its kind is 1 to 3" */
    private static void promise13OtherKindsAreNotTaken() {
        for (int kind : new int[] {0, 4, 8, 9, 10, 11, 15}) {
            TrunkCells x = Checks.withMobilesIn(0);
            x.member(0, 15);
            x.send(0, 0, 0);
            x.fault(0, Checks.turning(Checks.block(Checks.DATA, 0, 0, 0, 0), Checks.block(kind, 0, 0, 0, 0)));
            x.tick(4);
            C.dueRow("kind " + kind, i -> x.mobile(0, 5 + i), Checks.DATA, 1, 1);
            C.due("nothing to say", x.saying(0, 0), NONE);
        }
    }

    /** "Others are from a mobile that is registered in that cell, or nothing comes of them." */
    private static void promise9DataNeedsBothRegistered() {
        TrunkCells x = Checks.withMobilesIn(0, 1);
        x.move(2, 0);
        x.send(2, 1, 5);
        x.tick(4);
        C.due("taken", x.mobile(2, 5), 0);
        C.due("from one that is not registered", x.saying(1, 0), NONE);
        x.send(0, 2, 5);
        x.tick(4);
        C.due("taken", x.mobile(0, 5), 0);
        C.due("for one that is not registered", x.saying(0, 0), NONE);
        x.move(0, 1);
        x.send(0, 1, 5);
        x.tick(4);
        C.due("from one that is registered elsewhere", x.mobile(1, 10), 0);
        x.register(0);
        x.tick(4);
        x.send(0, 1, 5);
        x.tick(8);
        C.due("it comes then", x.mobile(1, 11), 80);
        x.move(1, NONE);
        x.send(0, 1, 6);
        x.tick(4);
        C.due("for one that the switch has there, though it is off", x.saying(1, 0),
                Checks.block(Checks.DATA_DOWN, 1, 0, 0, 6));
    }

    /** "the cell in which the one that it is for is registered, if any" */
    private static void promise9DataForNobody() {
        for (int to = 8; to < 16; to++) {
            TrunkCells x = Checks.withMobilesIn(0);
            x.send(0, 0, 0);
            x.fault(0, Checks.turning(Checks.block(Checks.DATA, 0, 0, 0, 0),
                    Checks.block(Checks.DATA, 0, to / 4, to % 4, 0)));
            x.tick(1);
            C.due("taken", x.mobile(0, 5), 0);
            C.due("for " + to, x.saying(0, 0), NONE);
        }
        TrunkCells y = Checks.withMobilesIn(0);
        y.send(0, 0, 1);
        y.tick(4);
        y.fault(3, Checks.turning(Checks.block(Checks.DATA_DOWN, 0, 0, 0, 1),
                Checks.block(Checks.DATA_DOWN, 0, 3, 2, 511)));
        y.tick(4);
        C.due("from 14", y.mobile(0, 11), 16 * 511 + 14);
    }

    /** "(at most 8; what is more is left out, the last ones)" */
    private static void promise17AtMostEightToSay() {
        // Cells 1 and 2 each hand a block a frame to cell 0, and so does cell 0: it says one and gets three.
        TrunkCells x = Checks.withMobilesIn(0, 1, 2);
        int data = 0;
        for (int i = 0; i < 4; i++) {
            for (int m = 0; m < 3; m++) {
                x.send(m, 0, data++);
            }
            x.tick(4);
        }
        C.due("the first", x.saying(0, 0), Checks.block(Checks.DATA_DOWN, 0, 0, 0, 0));
        C.due("the seventh", x.saying(0, 6), Checks.block(Checks.DATA_DOWN, 0, 0, 0, 6));
        C.due("the eighth, for TAKEN had put out 7, and 8 and 9 had found no room", x.saying(0, 7),
                Checks.block(Checks.DATA_DOWN, 0, 0, 1, 10));
        C.due("no ninth", x.saying(0, 8), NONE);
        x.send(0, 0, 99);
        x.tick(1);
        C.due("TAKEN had put the eighth out, and 99 with it", x.saying(0, 6),
                Checks.block(Checks.DATA_DOWN, 0, 0, 0, 6));
        C.due("seven are left", x.saying(0, 7), NONE);
        C.due("sent: nothing but TAKEN", x.mobile(0, 10), 0);
        x.tick(3 + 7 * 4);
        C.due("seven came", x.mobile(0, 10), 7);
        C.due("the last one", x.mobile(0, 11), 16 * 6);
    }
}
