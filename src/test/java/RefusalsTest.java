import java.util.ArrayList;
import java.util.Arrays;
import java.util.List;
import java.util.function.Consumer;
import java.util.function.Function;

/**
 * Promises 2 to 17: each call that the document refuses, at each edge that it names. Behind it nothing has changed:
 * an object with the refused call answers all questions as one without it, and goes on like it, so that what cannot
 * be asked for (keys, groups of members, speech, faults, draws, messages) is seen too.
 */
public final class RefusalsTest {
    private static final Checks C = new Checks("RefusalsTest");
    private static final int NONE = Checks.NONE;
    private static final int[] WRONG_MOBILES = {-1, 8, Integer.MIN_VALUE, Integer.MAX_VALUE};
    private static final int[] WRONG_GROUPS = {-1, 4, Integer.MIN_VALUE, Integer.MAX_VALUE};
    private static final int[] WRONG_CELLS = {-2, 3, Integer.MIN_VALUE, Integer.MAX_VALUE};
    private static final Class<? extends RuntimeException> INDEX = IndexOutOfBoundsException.class;
    private static final Class<? extends RuntimeException> ARGUMENT = IllegalArgumentException.class;
    private static final Class<? extends RuntimeException> STATE = IllegalStateException.class;

    public static void main(String[] args) {
        worldIsBusy();
        whatCannotBeAskedForIsSeen();
        promise2KeysOfNoMobile();
        promise3KeyOfNoGroup();
        promise4MemberNoMobile();
        promise5MoveOfNoMobile();
        promise5MoveToAnotherCell();
        promise6RegisterOfNoMobile();
        promise6RegisterWhenOff();
        promise6RegisterWithAMessage();
        promise7PressOfNoMobile();
        promise7PressForNoGroup();
        promise7PressWhenOff();
        promise7PressWithAMessage();
        promise7PressWhilePressing();
        promise8ReleaseOfNoMobile();
        promise8ReleaseOfOneThatDoesNotPress();
        promise9SendOfNoMobile();
        promise9SendToNoMobile();
        promise9SendWhenOff();
        promise9SendWithAMessage();
        promise10SpeakOfNoMobile();
        promise11DrawOfNoMobile();
        promise11DrawTooSmallOrTooLarge();
        promise11DrawWhenItHasEight();
        promise12FaultOfNobody();
        promise13TickTooSmallOrTooLarge();
        promise13TickOfNone();
        promises14To20AskingChangesNothing();
        C.end();
    }

    // Mobiles 0 to 6 are busy in all ways that there are, each with its own part; 7 is off.
    private static final int TALKER = 0;
    private static final int WAITER = 1;
    private static final int WITH_REGISTER = 6;
    private static final int WITH_REQUEST = 3;
    private static final int WITH_DATA = 4;
    private static final int WITH_EIGHT_DRAWS = 5;
    private static final int OFF = 7;
    private static final int FREE = 2;

    private static void makeBusy(TrunkCells x) {
        for (int m = 0; m < 8; m++) {
            x.keys(m, 100 + m, 100 + m);
            x.member(m, m < 6 ? 15 : 3);
        }
        for (int g = 0; g < 4; g++) {
            x.group(g, 7 * g + 1);
        }
        for (int m = 0; m < 7; m++) {
            x.move(m, m % 3);
            x.register(m);
            if (m % 3 == 2) {
                x.tick(4);
            }
        }
        x.tick(4);
        x.speak(TALKER, 5000);
        x.press(TALKER, 0, 1);
        x.press(WAITER, 0, 2);
        x.tick(9);
        for (int i = 0; i < 8; i++) {
            x.draw(WITH_EIGHT_DRAWS, i * 2);
        }
        x.draw(WITH_REQUEST, 3);
        x.draw(WITH_REQUEST, 1);
        x.register(WITH_REGISTER);
        x.press(WITH_REQUEST, 2, 3);
        x.tick(4);
        x.send(WITH_DATA, FREE, 300);
        x.send(WITH_EIGHT_DRAWS, TALKER, 77);
        x.fault(2, Checks.ALL_PLACES);
        x.fault(3 + FREE, Checks.ALL_PLACES);
        x.fault(10, Checks.ALL_PLACES);
    }

    /** Else the refusals below would be of other calls than they say. */
    private static void worldIsBusy() {
        TrunkCells x = Checks.after(RefusalsTest::makeBusy);
        C.due("talker", x.mobile(TALKER, 1), 1);
        C.due("waits", x.waiting(0, 0), 4 * WAITER + 2);
        C.dueRow("REGISTER, once tried", i -> x.mobile(WITH_REGISTER, 5 + i), 1, 1, 1);
        C.dueRow("REQUEST, once tried", i -> x.mobile(WITH_REQUEST, 4 + i), 2, 2, 1, 3);
        C.dueRow("DATA", i -> x.mobile(WITH_DATA, 5 + i), 3, 0, 0);
        C.due("draws", x.mobile(WITH_EIGHT_DRAWS, 12), 8);
        C.dueRow("free", i -> x.mobile(FREE, 4 + i), NONE, 0);
        C.due("off", x.mobile(OFF, 0), NONE);
        C.due("in the middle of a frame", x.tick(0) % 4, 1);
    }

    /** Else the refusals below would prove little. */
    private static void whatCannotBeAskedForIsSeen() {
        for (int i = 0; i < 8; i++) {
            int m = i;
            isSeen("own key of " + m, x -> x.keys(m, 1, 100 + m));
            isSeen("known key of " + m, x -> x.keys(m, 100 + m, 1));
            for (int g = 0; g < 4; g++) {
                int groups = (m < 6 ? 15 : 3) ^ 1 << g;
                isSeen("groups " + groups + " of " + m, x -> x.member(m, groups));
            }
        }
        for (int i = 0; i < 4; i++) {
            int g = i;
            isSeen("key of group " + g, x -> x.group(g, 99));
        }
        for (int i = 0; i < 11; i++) {
            int at = i;
            boolean has = at == 2 || at == 3 + FREE || at == 10;
            isSeen("fault " + at, x -> x.fault(at, has ? 0 : Checks.ALL_PLACES));
        }
        isSeen("speech", x -> x.speak(TALKER, 1));
    }

    private static void isSeen(String what, Consumer<TrunkCells> change) {
        TrunkCells x = Checks.after(RefusalsTest::makeBusy);
        TrunkCells y = Checks.after(RefusalsTest::makeBusy);
        change.accept(x);
        boolean isSeen = !Arrays.equals(goOn(x), goOn(y)) || !Arrays.equals(Checks.stateOf(x), Checks.stateOf(y));
        C.due("seen: " + what, isSeen ? 1 : 0, 1);
    }

    private static void refused(String what, Class<? extends RuntimeException> want, Consumer<TrunkCells> call) {
        changesNothing(what, want, call, RefusalsTest::makeBusy, RefusalsTest::goOn);
    }

    private static void changesNothing(String what, Class<? extends RuntimeException> want, Consumer<TrunkCells> call,
            Consumer<TrunkCells> world, Function<TrunkCells, int[]> goOn) {
        TrunkCells asked = Checks.after(world);
        C.dueThrow(what, want, () -> call.accept(asked));
        C.dueAnswers("behind " + what, Checks.stateOf(asked), Checks.stateOf(Checks.after(world)));
        TrunkCells gone = Checks.after(world);
        C.dueThrow(what, want, () -> call.accept(gone));
        int[] got = goOn.apply(gone);
        TrunkCells without = Checks.after(world);
        int[] due = goOn.apply(without);
        C.dueRow("some time behind " + what + ", answer", i -> got[i], due);
        C.dueAnswers("long behind " + what, Checks.stateOf(gone), Checks.stateOf(without));
    }

    /** What comes next shows by and by all that cannot be asked for. */
    private static int[] goOn(TrunkCells x) {
        List<Integer> seen = new ArrayList<>();
        showMessagesAndDraws(x, seen);
        showKeys(x, seen);
        showMemberships(x, seen);
        showGroupKeys(x, seen);
        return seen.stream().mapToInt(i -> i).toArray();
    }

    private static void showMessagesAndDraws(TrunkCells x, List<Integer> seen) {
        x.send(TALKER, TALKER, 9);
        for (int i = 0; i < 5; i++) {
            x.tick(4);
            seen.add(x.mobile(TALKER, 5));
            seen.add(x.mobile(WITH_REGISTER, 5));
            seen.add(x.mobile(WITH_REQUEST, 7));
            seen.add(x.mobile(WITH_EIGHT_DRAWS, 7));
            seen.add(x.mobile(FREE, 11));
            seen.add(x.mobile(TALKER, 11));
            seen.add(x.mobile(WAITER, 9));
            seen.add(x.call(0, 1));
        }
        x.tick(200);
    }

    /** Each one registers in another cell than before: it comes there only with the same key as the switch. */
    private static void showKeys(TrunkCells x, List<Integer> seen) {
        for (int m = 0; m < 8; m++) {
            x.move(m, (m + 1) % 3);
            x.register(m);
            x.tick(8);
            seen.add(x.mobile(m, 6));
        }
    }

    /** All are in cell 2, and each decodes GRANTs of all groups in place of TAKEN: members listen. */
    private static void showMemberships(TrunkCells x, List<Integer> seen) {
        Checks.toFrame(x);
        for (int g = 0; g < 4; g++) {
            for (int m = 0; m < 8; m++) {
                x.move(m, 2);
                x.fault(3 + m, Checks.turning(Checks.block(Checks.TAKEN, 1, 0, 0, 0),
                        Checks.block(Checks.GRANT, 1, g, 3, 0)));
            }
            x.register(1);
            x.tick(4);
            for (int m = 0; m < 8; m++) {
                seen.add(x.mobile(m, 3));
            }
        }
    }

    /** Mobile 1 talks in group 0's call, and others hear that with each other group's key. */
    private static void showGroupKeys(TrunkCells x, List<Integer> seen) {
        for (int m = 0; m < 8; m++) {
            x.move(m, 2);
        }
        x.press(1, 0, 0);
        x.tick(8);
        x.send(7, 7, 5);
        for (int g = 1; g < 4; g++) {
            x.fault(3 + 1 + g, Checks.turning(Checks.block(Checks.TAKEN, 7, 0, 0, 0),
                    Checks.block(Checks.GRANT, 1, g, 1, 0)));
        }
        x.tick(4);
        for (int g = 0; g < 4; g++) {
            seen.add(g == 0 ? x.mobile(0, 9) : x.mobile(1 + g, 9));
        }
    }

    private static void promise2KeysOfNoMobile() {
        for (int m : WRONG_MOBILES) {
            refused("keys(" + m + ", 1, 2)", INDEX, x -> x.keys(m, 1, 2));
        }
    }

    private static void promise3KeyOfNoGroup() {
        for (int g : WRONG_GROUPS) {
            refused("group(" + g + ", 99)", INDEX, x -> x.group(g, 99));
        }
    }

    private static void promise4MemberNoMobile() {
        for (int m : WRONG_MOBILES) {
            refused("member(" + m + ", 0)", INDEX, x -> x.member(m, 0));
            refused("member(" + m + ", 12)", INDEX, x -> x.member(m, 12));
        }
    }

    private static void promise5MoveOfNoMobile() {
        for (int m : WRONG_MOBILES) {
            refused("move(" + m + ", 1)", INDEX, x -> x.move(m, 1));
            refused("move(" + m + ", NONE)", INDEX, x -> x.move(m, NONE));
        }
    }

    /** "IndexOutOfBoundsException also for another cell." */
    private static void promise5MoveToAnotherCell() {
        for (int cell : WRONG_CELLS) {
            for (int m : new int[] {TALKER, WAITER, WITH_REGISTER, WITH_REQUEST, WITH_DATA, OFF}) {
                refused("move(" + m + ", " + cell + ")", INDEX, x -> x.move(m, cell));
            }
        }
    }

    private static void promise6RegisterOfNoMobile() {
        for (int m : WRONG_MOBILES) {
            refused("register(" + m + ")", INDEX, x -> x.register(m));
        }
    }

    /** "IllegalStateException: it is off ..." */
    private static void promise6RegisterWhenOff() {
        refused("register when off", STATE, x -> x.register(OFF));
    }

    /** "... or has one." */
    private static void promise6RegisterWithAMessage() {
        for (int m : new int[] {WITH_REGISTER, WITH_REQUEST, WITH_DATA}) {
            refused("register(" + m + ") with a message", STATE, x -> x.register(m));
        }
    }

    private static void promise7PressOfNoMobile() {
        for (int m : WRONG_MOBILES) {
            refused("press(" + m + ", 1, 1)", INDEX, x -> x.press(m, 1, 1));
        }
    }

    private static void promise7PressForNoGroup() {
        for (int g : WRONG_GROUPS) {
            refused("press(2, " + g + ", 1)", INDEX, x -> x.press(FREE, g, 1));
        }
    }

    /** "IllegalStateException: it is off ..." */
    private static void promise7PressWhenOff() {
        refused("press when off", STATE, x -> x.press(OFF, 0, 0));
    }

    /** "... has one ..." */
    private static void promise7PressWithAMessage() {
        for (int m : new int[] {WITH_REGISTER, WITH_DATA}) {
            refused("press(" + m + ", 1, 1) with a message", STATE, x -> x.press(m, 1, 1));
        }
    }

    /** "... or presses for one." */
    private static void promise7PressWhilePressing() {
        refused("press for another group, as a talker", STATE, x -> x.press(TALKER, 1, 1));
        refused("press for the same group, as a talker", STATE, x -> x.press(TALKER, 0, 1));
        refused("press of one that waits", STATE, x -> x.press(WAITER, 0, 3));
        refused("press of one that has REQUEST yet", STATE, x -> x.press(WITH_REQUEST, 2, 1));
    }

    private static void promise8ReleaseOfNoMobile() {
        for (int m : WRONG_MOBILES) {
            refused("release(" + m + ")", INDEX, x -> x.release(m));
        }
    }

    /** "(off or not; nothing if it did not)" */
    private static void promise8ReleaseOfOneThatDoesNotPress() {
        for (int m : new int[] {FREE, WITH_REGISTER, WITH_DATA, OFF}) {
            refused("release(" + m + ")", null, x -> x.release(m));
        }
    }

    private static void promise9SendOfNoMobile() {
        for (int m : WRONG_MOBILES) {
            refused("send(" + m + ", 1, 1)", INDEX, x -> x.send(m, 1, 1));
        }
    }

    private static void promise9SendToNoMobile() {
        for (int m : WRONG_MOBILES) {
            refused("send(2, " + m + ", 1)", INDEX, x -> x.send(FREE, m, 1));
        }
    }

    /** "IllegalStateException: it is off ..." */
    private static void promise9SendWhenOff() {
        refused("send when off", STATE, x -> x.send(OFF, 0, 1));
    }

    /** "... or has one." */
    private static void promise9SendWithAMessage() {
        for (int m : new int[] {WITH_REGISTER, WITH_REQUEST, WITH_DATA}) {
            refused("send(" + m + ", 0, 1) with a message", STATE, x -> x.send(m, 0, 1));
        }
    }

    private static void promise10SpeakOfNoMobile() {
        for (int m : WRONG_MOBILES) {
            changesNothing("speak(" + m + ", 1)", INDEX, x -> x.speak(m, 1), RefusalsTest::makeMembers,
                    RefusalsTest::speakInTurn);
        }
    }

    private static void makeMembers(TrunkCells x) {
        for (int m = 0; m < 8; m++) {
            x.member(m, 1);
            x.move(m, 0);
            x.register(m);
            x.tick(4);
            x.speak(m, 1000 + m);
        }
    }

    private static int[] speakInTurn(TrunkCells x) {
        int[] heard = new int[8];
        for (int m = 0; m < 8; m++) {
            x.press(m, 0, 0);
            x.tick(8);
            heard[m] = x.mobile((m + 1) % 8, 9);
            x.release(m);
            x.tick(8);
        }
        C.dueRow("heard in turn", m -> heard[m], 1000, 1001, 1002, 1003, 1004, 1005, 1006, 1007);
        return heard;
    }

    private static void promise11DrawOfNoMobile() {
        for (int m : WRONG_MOBILES) {
            refused("draw(" + m + ", 1)", INDEX, x -> x.draw(m, 1));
        }
    }

    /** "IllegalArgumentException: it is not 0 .. 15" */
    private static void promise11DrawTooSmallOrTooLarge() {
        for (int draw : new int[] {-1, 16, Integer.MIN_VALUE, Integer.MAX_VALUE}) {
            refused("draw(3, " + draw + ")", ARGUMENT, x -> x.draw(WITH_REQUEST, draw));
        }
    }

    /** "IllegalStateException: it has 8." */
    private static void promise11DrawWhenItHasEight() {
        for (int draw : new int[] {1, 9, 15}) {
            refused("draw(5, " + draw + ")", STATE, x -> x.draw(WITH_EIGHT_DRAWS, draw));
            changesNothing("draw(5, " + draw + ")", STATE, x -> x.draw(WITH_EIGHT_DRAWS, draw),
                    RefusalsTest::makeBusy, RefusalsTest::useAllDraws);
        }
    }

    private static int[] useAllDraws(TrunkCells x) {
        int[] waits = new int[9];
        Checks.toFrame(x);
        for (int i = 0; i < 9; i++) {
            x.move(WITH_EIGHT_DRAWS, 2);
            x.register(WITH_EIGHT_DRAWS);
            x.fault(2, Checks.ALL_PLACES);
            x.tick(4);
            waits[i] = x.mobile(WITH_EIGHT_DRAWS, 7);
        }
        C.dueRow("draws, then 1 without", i -> waits[i], 0, 2, 4, 6, 8, 10, 12, 14, 1);
        return waits;
    }

    /** "a cell (0 .. 2) or mobile (3 .. 10: 0 .. 7)" */
    private static void promise12FaultOfNobody() {
        for (int at : new int[] {-1, 11, Integer.MIN_VALUE, Integer.MAX_VALUE}) {
            refused("fault(" + at + ", 0)", INDEX, x -> x.fault(at, 0));
            refused("fault(" + at + ", all)", INDEX, x -> x.fault(at, Checks.ALL_PLACES));
        }
    }

    /** "IllegalArgumentException: n is not 0 .. 200" */
    private static void promise13TickTooSmallOrTooLarge() {
        for (int n : new int[] {-1, 201, Integer.MIN_VALUE, Integer.MAX_VALUE}) {
            refused("tick(" + n + ")", ARGUMENT, x -> x.tick(n));
        }
    }

    /** "n slots more": with n 0 nothing happens */
    private static void promise13TickOfNone() {
        refused("tick(0)", null, x -> x.tick(0));
    }

    /** Questions answer, in and out of their bounds, and do no more. */
    private static void promises14To20AskingChangesNothing() {
        refused("asking", null, x -> {
            for (int i : new int[] {Integer.MIN_VALUE, -1, 0, 4, 8, Integer.MAX_VALUE}) {
                x.mobile(i, i);
                x.call(i, i);
                x.waiting(i, i);
                x.saying(i, i);
                x.coded(i, i);
                x.decoded(i, i);
                x.distance(i, i);
            }
        });
    }
}
