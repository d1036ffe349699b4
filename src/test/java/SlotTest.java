/** Promises 3, 4, 15 and 21: slots from close to decision. */
public final class SlotTest {
    private static final Due due = new Due("SlotTest");

    public static void main(String[] args) {
        closeSendsToEveryLogNode();
        closeIsRefused();
        closeIsRefusedWhenCrowded();
        twentySlotsAreTheMost();
        resendOfAnUndecidedSlot();
        resendOfADecidedSlot();
        resendIsRefused();
        resendIsRefusedWhenCrowded();
        statusFollowsTheSlot();
        statusOfACrashedBatch();
        storedTellsIncarnationAndEmptiness();
        storedOfNothing();
        due.end();
    }

    private static void closeSendsToEveryLogNode() {
        Counted x = new Counted(2);
        x.submit(1, Steps.SET, 0, 0, 1);
        due.is("close(1)", x.close(1), 0);
        due.is("an empty batch", x.close(1), 1);
        due.is("the other sequencer", x.close(0), 0);
        int[] codes = {1100000, 1100010, 1100020, 1101000, 1101010, 1101020, 1000000, 1000010, 1000020};
        due.is("messages()", x.messages(), codes.length);
        for (int i = 0; i < codes.length; i++) {
            due.is("message(" + i + ")", x.message(i), codes[i]);
        }
    }

    private static void closeIsRefused() {
        Counted x = new Counted(2);
        due.is("close(-1)", x.close(-1), -1);
        due.is("close(2)", x.close(2), -1);
        due.is("close(MIN)", x.close(Integer.MIN_VALUE), -1);
        x.crash(Steps.SEQUENCER + 1);
        due.is("close of a sequencer that is down", x.close(1), -1);
        due.is("messages()", x.messages(), 0);
        x.close(0);
        x.close(0);
        due.is("the third", x.close(0), 2);
        int t = x.submit(0, Steps.SET, 0, 0, 1);
        due.is("three are not decided", x.close(0), -1);
        due.is("its batch stays open", x.status(t), 0);
        due.is("messages()", x.messages(), 9);
        Steps.deliver(x, 2);
        x.deliver(7);
        x.deliver(7);
        due.is("one is decided", x.close(0), 3);
        due.is("status", x.status(t), 1);
    }

    private static void closeIsRefusedWhenCrowded() {
        Counted x = new Counted(2);
        x.close(0);
        for (int i = 0; i < 15; i++) {
            x.resend(0, 0);
        }
        due.is("messages()", x.messages(), 48);
        due.is("48 are under way", x.close(1), 0);
        due.is("51 are under way", x.close(1), -1);
        x.drop(0);
        x.drop(0);
        due.is("49 are under way", x.close(1), -1);
        due.is("messages()", x.messages(), 49);
        x.drop(0);
        due.is("48 again", x.close(1), 1);
    }

    private static void twentySlotsAreTheMost() {
        Counted x = new Counted(1);
        for (int e = 0; e < 20; e++) {
            due.is("close", x.close(0), e);
            Steps.deliver(x, 8);
        }
        due.is("messages()", x.messages(), 0);
        due.is("the 21st", x.close(0), -1);
        due.is("resend(0, 20)", x.resend(0, 20), -1);
        due.is("stored(0, 0, 20)", x.stored(0, 0, 20), -1);
        due.is("stored(0, 0, 19)", x.stored(0, 0, 19), 2);
        due.is("the 20th slot's code", x.resend(0, 19), 2);
        due.is("message(0)", x.message(0), 3019000);
        due.is("the other sequencer", x.close(1), 0);
    }

    private static void resendOfAnUndecidedSlot() {
        Counted x = new Counted(2);
        x.close(0);
        due.is("none has acknowledged", x.resend(0, 0), 3);
        due.is("message(3)", x.message(3), 1000000);
        due.is("message(5)", x.message(5), 1000020);
        x.deliver(1);
        due.is("an ACK under way does not count", x.resend(0, 0), 3);
        Steps.drop(x, 5);
        due.is("the ACK", x.message(0), 2000010);
        x.deliver(0);
        Steps.dropAll(x);
        due.is("one has acknowledged", x.resend(0, 0), 2);
        due.is("message(0)", x.message(0), 1000000);
        due.is("message(1)", x.message(1), 1000020);
        due.is("the next slot", x.close(0), 1);
    }

    private static void resendOfADecidedSlot() {
        Counted x = new Counted(2);
        Steps.closeAndDecide(x, 1);
        due.is("decided", x.resend(1, 0), 2);
        due.is("message(0)", x.message(0), 3100000);
        due.is("message(1)", x.message(1), 3100010);
        Steps.dropAll(x);
        x.close(1);
        Steps.drop(x, 3);
        x.crash(4);
        x.restart(4);
        due.is("proposed is empty now", x.resend(1, 1), 3);
        due.is("message(3)", x.message(3), 1101001);
        Steps.deliverAll(x);
        due.is("decided as empty", x.resend(1, 1), 2);
        due.is("message(0)", x.message(0), 3101001);
        due.is("message(1)", x.message(1), 3101011);
    }

    private static void resendIsRefused() {
        Counted x = new Counted(2);
        x.close(0);
        due.is("resend(-1, 0)", x.resend(-1, 0), -1);
        due.is("resend(2, 0)", x.resend(2, 0), -1);
        due.is("resend(1, 0)", x.resend(1, 0), -1);
        due.is("resend(0, -1)", x.resend(0, -1), -1);
        due.is("resend(0, 1)", x.resend(0, 1), -1);
        due.is("resend(0, 20)", x.resend(0, 20), -1);
        due.is("resend(0, MAX)", x.resend(0, Integer.MAX_VALUE), -1);
        x.crash(Steps.SEQUENCER);
        due.is("down", x.resend(0, 0), -1);
        due.is("messages()", x.messages(), 3);
    }

    private static void resendIsRefusedWhenCrowded() {
        Counted x = new Counted(2);
        Steps.closeAndDecide(x, 0);
        for (int i = 0; i < 24; i++) {
            due.is("resend", x.resend(0, 0), 2);
        }
        due.is("48 are under way", x.resend(0, 0), 2);
        due.is("50 are under way", x.resend(0, 0), -1);
        x.drop(0);
        due.is("49 are under way", x.resend(0, 0), -1);
        due.is("messages()", x.messages(), 49);
    }

    private static void statusFollowsTheSlot() {
        Counted x = new Counted(2);
        x.submit(0, Steps.SET, 0, 0, 1);
        due.is("open", x.status(0), 0);
        x.close(0);
        due.is("closed", x.status(0), 1);
        Steps.deliver(x, 4);
        due.is("one ACK", x.status(0), 1);
        x.deliver(0);
        due.is("two ACKs", x.status(0), 2);
        x.crash(Steps.SEQUENCER);
        x.restart(Steps.SEQUENCER);
        due.is("decided stays decided", x.status(0), 2);
        due.is("no STORE for it", x.messages(), 3);
    }

    private static void statusOfACrashedBatch() {
        Counted x = new Counted(2);
        x.submit(0, Steps.SET, 0, 0, 1);
        x.close(0);
        x.submit(0, Steps.SET, 0, 0, 2);
        x.submit(1, Steps.SET, 0, 0, 3);
        x.crash(Steps.SEQUENCER);
        due.is("in a slot", x.status(0), 1);
        due.is("in the open batch", x.status(1), 3);
        due.is("of the other sequencer", x.status(2), 0);
        x.restart(Steps.SEQUENCER);
        due.is("still lost", x.status(1), 3);
        x.submit(0, Steps.SET, 0, 0, 4);
        x.close(0);
        due.is("a new one in the next slot", x.status(3), 1);
        due.is("the lost one is not in it", x.status(1), 3);
        Steps.deliverAll(x);
        due.is("decided as empty", x.status(0), 3);
        due.is("decided as original", x.status(3), 2);
    }

    private static void storedTellsIncarnationAndEmptiness() {
        Counted x = new Counted(2);
        x.close(1);
        due.is("nothing yet", x.stored(0, 1, 0), 0);
        x.deliver(1);
        due.is("original, incarnation 1", x.stored(1, 1, 0), 2);
        due.is("not on another node", x.stored(0, 1, 0), 0);
        x.crash(1);
        due.is("kept over the crash", x.stored(1, 1, 0), 2);
        Steps.dropAll(x);
        x.crash(4);
        x.restart(4);
        x.deliver(0);
        due.is("empty, incarnation 2", x.stored(0, 1, 0), 5);
        x.crash(4);
        x.restart(4);
        Steps.deliverAll(x);
        due.is("empty, incarnation 3", x.stored(0, 1, 0), 7);
        due.is("empty, incarnation 3", x.stored(2, 1, 0), 7);
        due.is("was down", x.stored(1, 1, 0), 2);
    }

    private static void storedOfNothing() {
        Counted x = new Counted(2);
        x.close(0);
        due.is("stored(-1, 0, 0)", x.stored(-1, 0, 0), -1);
        due.is("stored(3, 0, 0)", x.stored(3, 0, 0), -1);
        due.is("stored(0, -1, 0)", x.stored(0, -1, 0), -1);
        due.is("stored(0, 2, 0)", x.stored(0, 2, 0), -1);
        due.is("stored(0, 1, 0)", x.stored(0, 1, 0), -1);
        due.is("stored(0, 0, -1)", x.stored(0, 0, -1), -1);
        due.is("stored(0, 0, 1)", x.stored(0, 0, 1), -1);
        due.is("stored(0, 0, MAX)", x.stored(0, 0, Integer.MAX_VALUE), -1);
        due.is("stored(0, 0, 0)", x.stored(0, 0, 0), 0);
    }
}
