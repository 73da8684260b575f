/** Promises 9 to 16: calls, ticks, limits, meters, bells and counts. */
final class CallsTest {
    /** Loop 0: subscribers 0 to 3, loop 1: 4 to 6. */
    private static final String[] TWO_LOOPS = {
        "addSubscriber 0 2 1 = 0", "addSubscriber 0 4 2 = 1", "addSubscriber 0 6 4 = 2",
        "addSubscriber 0 8 14 = 3", "addSubscriber 1 3 1 = 4", "addSubscriber 1 5 3 = 5",
        "addSubscriber 1 7 6 = 6"};

    private CallsTest() {
    }

    public static void main(String[] args) {
        seizing();
        listening();
        answering();
        answeringForAnother();
        lockingOut();
        privacyOfTheOtherEndDoesNotLock();
        revertingAndGivingUp();
        talkingInTheLoop();
        lockingOutInTheLoop();
        liftingWhenCutOff();
        liftAndHangRefused();
        hangingUpWhileCalling();
        hangingUpWhileTalking();
        hangingUpWhileHolding();
        hangingUpInTheLoop();
        dialing();
        dialingCutOffAndBusy();
        dialRefused();
        waitingTooLongToDial();
        lostCalls();
        lostRevertingCalls();
        meters();
        limitInACall();
        limitWithOneLockedOutAtTheOtherEnd();
        limitInTheLoop();
        tickAnswersAndRefuses();
        setLimit();
        bells();
        bellsWhileReverting();
        wouldDial();
        told();
        Script.end();
    }

    private static void run(String title, String... rows) {
        Script.run(title, Script.join(TWO_LOOPS, rows));
    }

    private static void seizing() {
        run("promise 9, phase 0", "lift 2 = 1", "loop 0 2 = 2", "subscriber 2 6 = 2",
                "loop 1 0 = 0", "told 4 = 0");
        run("promise 9, the timer begins again", "tick 7 = 0", "loop 0 1 = 7", "lift 2 = 1",
                "loop 0 1 = 0", "loop 1 1 = 7");
    }

    private static void listening() {
        run("promise 9, listening in the phases 1, 2, 5 and 6",
                "lift 2 = 1", "tick 2 = 1", "lift 0 = 1", "subscriber 0 6 = 3", "loop 0 2 = 2",
                "loop 0 1 = 2", "told 4 = 1", "dial 2 4 = 2", "set 2 1 1 = 0", "lift 1 = 2",
                "subscriber 1 6 = 3", "told 4 = 2", "hang 2 = 5", "loop 0 2 = 0",
                "subscriber 1 6 = 3", "set 0 1 1 = 0", "lift 3 = 5", "subscriber 3 6 = 3",
                "told 4 = 3", "told 5 = 0");
        run("promise 9, the second party listens while the first one holds",
                "lift 2 = 1", "dial 2 0 = 6", "set 2 1 1 = 0", "lift 0 = 6", "subscriber 0 6 = 3",
                "loop 0 3 = 0", "told 4 = 1");
    }

    private static void answering() {
        run("promise 9, phase 3",
                "lift 0 = 1", "dial 0 4 = 2", "tick 3 = 2", "lift 4 = 4", "loop 0 0 = 4",
                "loop 0 1 = 0", "loop 1 1 = 0", "loop 0 5 = 1", "loop 1 5 = 0", "loop 0 2 = 0",
                "loop 1 2 = 4", "loop 0 4 = 1", "loop 1 4 = 0", "subscriber 4 6 = 2",
                "subscriber 0 6 = 2", "told 0 = 1", "told 4 = 0");
    }

    private static void answeringForAnother() {
        run("promise 9, whoever was rung",
                "lift 4 = 1", "dial 4 1 = 2", "loop 0 2 = 1", "lift 3 = 4", "loop 0 2 = 3",
                "subscriber 3 6 = 2", "loop 1 5 = 1", "loop 0 5 = 0", "lift 1 = 4",
                "subscriber 1 6 = 3", "told 4 = 1");
    }

    private static void lockingOut() {
        run("promise 9, privacy in phase 4",
                "lift 0 = 1", "dial 0 4 = 2", "lift 4 = 4", "lift 1 = 4", "subscriber 1 6 = 3",
                "set 0 1 1 = 0", "subscriber 1 6 = 3", "lift 2 = 4", "subscriber 2 6 = 4",
                "told 5 = 1", "told 4 = 1", "set 0 1 0 = 1", "subscriber 2 6 = 4", "hang 2 = 4",
                "subscriber 2 6 = 0", "lift 2 = 4", "subscriber 2 6 = 3", "told 4 = 2",
                "told 5 = 1");
        run("promise 9, only the privacy of parties locks out",
                "lift 0 = 1", "dial 0 4 = 2", "lift 4 = 4", "set 1 1 1 = 0", "set 2 1 1 = 0",
                "lift 1 = 4", "lift 2 = 4", "subscriber 2 6 = 3", "told 5 = 0");
        run("promise 9, locked out until the loop is left",
                "lift 0 = 1", "dial 0 4 = 2", "lift 4 = 4", "set 4 1 1 = 0", "lift 5 = 4",
                "lift 6 = 4", "told 5 = 2", "hang 0 = 0", "loop 1 0 = 5", "loop 1 2 = 4",
                "subscriber 5 6 = 4", "subscriber 6 6 = 4", "hang 4 = 5", "loop 1 2 = 5",
                "subscriber 5 6 = 2", "subscriber 6 6 = 3");
    }

    private static void privacyOfTheOtherEndDoesNotLock() {
        run("promise 9, the parties of the loop itself",
                "set 4 1 1 = 0", "lift 0 = 1", "dial 0 4 = 2", "lift 4 = 4", "lift 1 = 4",
                "subscriber 1 6 = 3", "lift 5 = 4", "subscriber 5 6 = 4", "told 4 = 1",
                "told 5 = 1");
    }

    private static void revertingAndGivingUp() {
        run("promise 9, phase 7",
                "lift 1 = 1", "dial 1 0 = 6", "hang 1 = 7", "loop 0 2 = 1", "loop 0 3 = 0",
                "tick 5 = 1", "lift 1 = 1", "loop 0 2 = 1", "loop 0 3 = -1", "loop 0 1 = 0",
                "subscriber 1 6 = 2", "told 1 = 0", "dial 1 4 = 2");
    }

    private static void talkingInTheLoop() {
        run("promise 9, phases 7 and 8",
                "lift 1 = 1", "dial 1 0 = 6", "hang 1 = 7", "tick 4 = 1", "lift 3 = 8",
                "loop 0 1 = 0", "loop 0 2 = 1", "loop 0 3 = 3", "subscriber 3 6 = 2",
                "subscriber 1 6 = 0", "told 1 = 1", "tick 2 = 1", "lift 1 = 8",
                "subscriber 1 6 = 2", "loop 0 1 = 2", "told 4 = 0", "lift 0 = 8",
                "subscriber 0 6 = 3", "told 4 = 1", "told 0 = 0");
    }

    private static void lockingOutInTheLoop() {
        run("promise 9, privacy of the first party that is on the hook",
                "set 1 1 1 = 0", "lift 1 = 1", "dial 1 0 = 6", "hang 1 = 7", "lift 0 = 8",
                "lift 2 = 8", "subscriber 2 6 = 4", "lift 1 = 8", "subscriber 1 6 = 2",
                "told 5 = 1", "told 4 = 0");
        run("promise 9, privacy of the second party",
                "set 0 1 1 = 0", "lift 1 = 1", "dial 1 0 = 6", "hang 1 = 7", "lift 0 = 8",
                "lift 2 = 8", "subscriber 2 6 = 4", "lift 1 = 8", "subscriber 1 6 = 2",
                "told 5 = 1");
        run("promise 9, the one that was dialed and did not answer is no party",
                "set 0 1 1 = 0", "lift 1 = 1", "dial 1 0 = 6", "hang 1 = 7", "lift 3 = 8",
                "lift 2 = 8", "subscriber 2 6 = 3", "set 3 1 1 = 0", "lift 0 = 8",
                "subscriber 0 6 = 4");
    }

    private static void liftingWhenCutOff() {
        run("promise 9, cut off",
                "fault 0 6 0 = 2", "lift 2 = 0", "subscriber 2 6 = 1", "loop 0 2 = -1",
                "lift 1 = 1", "lift 3 = 1", "subscriber 3 6 = 1", "told 4 = 0", "hang 3 = 1",
                "hang 1 = 0", "lift 4 = 1", "dial 4 0 = 2", "loop 0 0 = 3", "lift 3 = 3",
                "subscriber 3 6 = 1", "lift 1 = 4", "loop 0 2 = 1", "hang 3 = 4", "hang 1 = 0");
    }

    private static void liftAndHangRefused() {
        run("promises 9 and 10, wrong inputs",
                "lift 7 ! Index", "lift -1 ! Index", "lift 2147483647 ! Index",
                "hang 7 ! Index", "hang -1 ! Index", "hang -2147483648 ! Index",
                "hang 0 ! State", "lift 0 = 1", "lift 0 ! State", "hang 0 = 0", "hang 0 ! State",
                "fault 0 1 1 = 4", "lift 0 = 0", "lift 0 ! State", "hang 0 = 0",
                "hang 0 ! State");
    }

    private static void hangingUpWhileCalling() {
        run("promise 10, phase 2",
                "lift 0 = 1", "dial 0 4 = 2", "tick 3 = 2", "hang 0 = 0", "loop 0 0 = 0",
                "loop 1 0 = 0", "loop 1 2 = -1", "loop 1 4 = -1", "loop 1 1 = 0", "told 2 = 0",
                "told 0 = 0");
        run("promise 10, phase 2 with a listener",
                "lift 0 = 1", "dial 0 4 = 2", "lift 3 = 2", "lift 2 = 2", "hang 3 = 2", "lift 3 = 2",
                "hang 0 = 5", "loop 0 2 = 2", "subscriber 2 6 = 2", "subscriber 3 6 = 3",
                "loop 1 0 = 0", "hang 3 = 5", "loop 0 2 = 2", "hang 2 = 0");
    }

    private static void hangingUpWhileTalking() {
        run("promise 10, phase 4, the caller",
                "lift 0 = 1", "dial 0 4 = 2", "lift 4 = 4", "tick 3 = 2", "lift 5 = 4",
                "hang 0 = 0", "loop 1 0 = 5", "loop 1 1 = 0", "loop 1 2 = 4", "loop 1 4 = -1",
                "subscriber 5 6 = 3", "hang 5 = 5", "hang 4 = 0");
        run("promise 10, phase 4, the one that answered",
                "lift 0 = 1", "dial 0 4 = 2", "lift 4 = 4", "tick 3 = 2", "lift 5 = 4",
                "lift 6 = 4", "hang 4 = 5", "loop 1 2 = 5", "subscriber 6 6 = 3", "loop 0 0 = 5",
                "loop 0 2 = 0", "loop 0 5 = 0", "loop 0 4 = -1");
        run("promise 10, phase 4, listeners and who is locked out",
                "lift 0 = 1", "dial 0 4 = 2", "lift 4 = 4", "lift 1 = 4", "set 0 1 1 = 0",
                "lift 2 = 4", "tick 3 = 2", "hang 1 = 4", "hang 2 = 4", "loop 0 1 = 3",
                "loop 1 0 = 4");
    }

    private static void hangingUpWhileHolding() {
        run("promise 10, phase 6, nobody else",
                "lift 1 = 1", "dial 1 0 = 6", "tick 3 = 1", "hang 1 = 7", "loop 0 1 = 0");
        run("promise 10, phase 6, the second party is off the hook",
                "lift 1 = 1", "lift 0 = 1", "dial 1 0 = 6", "subscriber 0 6 = 3", "hang 0 = 6",
                "lift 0 = 6", "hang 1 = 5", "loop 0 2 = 0", "subscriber 0 6 = 2", "loop 0 3 = -1");
        run("promise 10, phase 6, only one that is cut off",
                "fault 0 8 0 = 1", "lift 3 = 0", "lift 1 = 1", "dial 1 0 = 6", "hang 1 = 7",
                "subscriber 3 6 = 1");
    }

    private static void hangingUpInTheLoop() {
        run("promise 10, phase 8, the second party",
                "lift 1 = 1", "dial 1 0 = 6", "hang 1 = 7", "lift 0 = 8", "hang 0 = 0",
                "loop 0 2 = -1", "loop 0 3 = -1");
        run("promise 10, phase 8, the first party",
                "lift 1 = 1", "dial 1 0 = 6", "hang 1 = 7", "lift 2 = 8", "lift 1 = 8",
                "set 1 1 1 = 0", "lift 0 = 8", "subscriber 0 6 = 4", "hang 1 = 5", "loop 0 2 = 0",
                "subscriber 0 6 = 2", "subscriber 2 6 = 3");
        run("promise 10, phases 1 and 5",
                "lift 1 = 1", "lift 3 = 1", "lift 2 = 1", "hang 1 = 5", "loop 0 2 = 2",
                "subscriber 3 6 = 3", "tick 4 = 1", "hang 2 = 5", "loop 0 2 = 3", "loop 0 1 = 0",
                "hang 3 = 0");
    }

    private static void dialing() {
        run("promise 11, no subscriber and the party itself",
                "lift 0 = 1", "tick 1 = 1", "dial 0 7 = 5", "loop 0 1 = 0", "loop 0 2 = 0",
                "told 3 = 1", "hang 0 = 0", "lift 0 = 1", "dial 0 0 = 5", "hang 0 = 0", "lift 0 = 1",
                "dial 0 -1 = 5", "hang 0 = 0", "lift 0 = 1", "dial 0 2147483647 = 5", "hang 0 = 0",
                "lift 0 = 1", "dial 0 -2147483648 = 5", "told 3 = 5");
        run("promise 11, the same loop and another one",
                "lift 0 = 1", "tick 1 = 1", "dial 0 3 = 6", "loop 0 1 = 0", "loop 0 2 = 0",
                "loop 0 3 = 3", "loop 0 4 = -1", "hang 0 = 7", "lift 0 = 1", "tick 2 = 1",
                "dial 0 6 = 2", "loop 0 4 = 1", "loop 1 4 = 0", "loop 1 0 = 3", "loop 1 2 = 6",
                "loop 1 1 = 0", "loop 0 1 = 0", "loop 0 3 = -1", "loop 1 3 = -1", "told 3 = 0");
        run("promise 11, listeners stay",
                "lift 0 = 1", "lift 1 = 1", "dial 0 9 = 5", "loop 0 2 = 0", "subscriber 1 6 = 3");
    }

    private static void dialingCutOffAndBusy() {
        run("promise 11, cut off",
                "fault 1 5 0 = 2", "lift 0 = 1", "dial 0 5 = 5", "hang 0 = 0", "lift 0 = 1",
                "dial 0 4 = 2", "hang 0 = 0", "fault 0 8 0 = 1", "lift 0 = 1", "dial 0 3 = 5",
                "told 3 = 2");
        run("promise 11, a free loop although one that is cut off is off the hook",
                "fault 1 5 0 = 2", "lift 5 = 0", "lift 0 = 1", "dial 0 4 = 2", "loop 1 0 = 3");
        run("promise 11, busy",
                "lift 4 = 1", "lift 0 = 1", "dial 0 5 = 5", "loop 1 0 = 1", "told 3 = 1",
                "dial 4 0 = 5", "told 3 = 2");
    }

    private static void dialRefused() {
        run("promise 11, wrong inputs",
                "dial 7 0 ! Index", "dial -1 0 ! Index", "dial 0 4 ! State", "lift 0 = 1",
                "lift 1 = 1", "dial 1 4 ! State", "dial 4 0 ! State", "dial 0 4 = 2",
                "dial 0 4 ! State", "lift 4 = 4", "dial 0 4 ! State", "dial 4 0 ! State",
                "hang 4 = 0", "loop 0 0 = 5", "dial 0 4 ! State", "dial 7 9 ! Index");
        run("promise 11, cut off in a free loop",
                "fault 0 8 0 = 1", "lift 3 = 0", "dial 3 4 ! State", "lift 0 = 1",
                "dial 3 4 ! State");
    }

    private static void waitingTooLongToDial() {
        run("promise 12, phase 1",
                "lift 0 = 1", "lift 1 = 1", "tick 11 = 1", "loop 0 0 = 1", "loop 0 1 = 11",
                "tick 1 = 1", "loop 0 0 = 5", "loop 0 1 = 0", "loop 0 2 = 0", "subscriber 1 6 = 3",
                "told 3 = 0", "tick 200 = 1", "loop 0 0 = 5", "loop 0 1 = 200", "loop 1 1 = 212",
                "tick 12 = 1", "loop 0 0 = 5", "loop 1 1 = 224");
    }

    private static void lostCalls() {
        run("promise 12, phase 3: 5 times 5 ticks",
                "lift 0 = 1", "dial 0 4 = 2", "tick 24 = 2", "loop 1 0 = 3", "tick 1 = 1",
                "loop 1 0 = 0", "loop 0 0 = 5", "loop 0 2 = 0", "loop 0 1 = 0", "loop 1 1 = 0",
                "told 2 = 1", "told 0 = 0");
        run("promise 12, phase 3: the loop that is rung has the lower number",
                "lift 4 = 1", "dial 4 3 = 2", "tick 74 = 2", "loop 0 0 = 3", "tick 1 = 1",
                "loop 0 0 = 0", "loop 1 0 = 5", "loop 1 1 = 0", "told 2 = 1");
    }

    private static void lostRevertingCalls() {
        run("promise 12, phase 7: 4 times 15 and 7 ticks",
                "lift 1 = 1", "dial 1 3 = 6", "hang 1 = 7", "tick 87 = 1", "loop 0 0 = 7",
                "loop 0 1 = 87", "tick 1 = 0", "loop 0 0 = 0", "loop 0 1 = 0", "loop 0 2 = -1",
                "loop 0 3 = -1", "told 2 = 1");
    }

    private static void meters() {
        run("promise 12, phase 4: the meter of the caller",
                "lift 4 = 1", "dial 4 0 = 2", "tick 10 = 2", "subscriber 4 7 = 0", "lift 1 = 4",
                "tick 5 = 2", "subscriber 4 7 = 0", "tick 1 = 2", "subscriber 4 7 = 1",
                "subscriber 1 7 = 0", "subscriber 0 7 = 0", "tick 11 = 2", "subscriber 4 7 = 2",
                "tick 1 = 2", "subscriber 4 7 = 3", "tick 200 = 2", "subscriber 4 7 = 36",
                "hang 1 = 0", "tick 60 = 1", "subscriber 4 7 = 36");
        run("promise 12, phase 8 has no meter",
                "lift 1 = 1", "dial 1 3 = 6", "hang 1 = 7", "lift 3 = 8", "lift 1 = 8",
                "tick 100 = 1", "subscriber 1 7 = 0", "subscriber 3 7 = 0", "loop 0 0 = 8");
    }

    private static void limitInACall() {
        run("promise 12, the limit in phase 4",
                "lift 0 = 1", "dial 0 4 = 2", "lift 4 = 4", "set 0 1 1 = 0", "lift 1 = 4",
                "tick 59 = 2", "loop 0 0 = 4", "subscriber 0 7 = 9", "tick 1 = 2", "loop 0 0 = 5",
                "loop 1 0 = 5", "subscriber 0 7 = 10", "loop 0 2 = 0", "loop 1 2 = 4",
                "subscriber 1 6 = 3", "loop 0 1 = 0", "loop 1 1 = 0", "told 2 = 0");
        run("promise 12, nobody is locked out until the limit is over",
                "setLimit 10 = 60", "lift 0 = 1", "dial 0 4 = 2", "lift 4 = 4", "lift 1 = 4",
                "tick 30 = 2", "loop 0 0 = 4", "set 0 1 1 = 0", "lift 2 = 4", "loop 0 0 = 4",
                "hang 2 = 4", "tick 1 = 2", "loop 0 0 = 4", "lift 2 = 4", "tick 1 = 2",
                "loop 0 0 = 5", "loop 0 1 = 0", "loop 1 1 = 0");
        run("promise 12, the lowest one gets the tone",
                "setLimit 10 = 60", "lift 2 = 1", "dial 2 4 = 2", "lift 4 = 4", "lift 1 = 4",
                "set 2 1 1 = 0", "lift 0 = 4", "subscriber 0 6 = 4", "tick 10 = 2", "loop 0 0 = 5",
                "loop 0 2 = 0", "subscriber 2 6 = 3", "subscriber 1 6 = 3", "subscriber 2 7 = 1");
    }

    private static void limitWithOneLockedOutAtTheOtherEnd() {
        run("promise 12, locked out in the loop that was called",
                "setLimit 12 = 60", "lift 0 = 1", "dial 0 4 = 2", "lift 4 = 4", "set 4 1 1 = 0",
                "lift 5 = 4", "tick 11 = 2", "loop 0 0 = 4", "tick 1 = 2", "loop 0 0 = 5",
                "loop 1 0 = 5", "loop 1 2 = 4", "subscriber 5 6 = 4", "subscriber 0 7 = 2",
                "tick 50 = 2", "loop 1 0 = 5");
        run("promise 12, the caller has the higher number",
                "setLimit 12 = 60", "lift 4 = 1", "dial 4 0 = 2", "lift 0 = 4", "set 0 1 1 = 0",
                "lift 1 = 4", "tick 12 = 2", "loop 1 0 = 5", "loop 0 0 = 5", "loop 0 2 = 0",
                "subscriber 1 6 = 4", "subscriber 4 7 = 2", "loop 0 1 = 0", "loop 1 1 = 0");
    }

    private static void limitInTheLoop() {
        run("promise 12, the limit in phase 8",
                "setLimit 10 = 60", "lift 1 = 1", "dial 1 3 = 6", "hang 1 = 7", "lift 3 = 8",
                "tick 9 = 1", "lift 1 = 8", "set 1 1 1 = 0", "lift 2 = 8", "subscriber 2 6 = 4",
                "loop 0 1 = 9", "tick 1 = 1", "loop 0 0 = 5", "loop 0 2 = 1", "subscriber 2 6 = 3",
                "subscriber 3 6 = 3", "loop 0 3 = -1", "loop 0 1 = 0");
    }

    private static void tickAnswersAndRefuses() {
        run("promise 12",
                "tick 0 ! Argument", "tick 201 ! Argument", "tick -1 ! Argument",
                "tick 2147483647 ! Argument", "tick -2147483648 ! Argument", "tick 1 = 0",
                "loop 0 1 = 1", "tick 200 = 0", "loop 0 1 = 201", "addLoop = 2", "lift 0 = 1",
                "tick 1 = 1", "lift 4 = 1", "tick 1 = 2", "loop 2 1 = 2");
    }

    private static void setLimit() {
        run("promise 13",
                "setLimit 10 = 60", "setLimit 200 = 10", "setLimit 9 ! Argument",
                "setLimit 201 ! Argument", "setLimit -1 ! Argument", "setLimit 2147483647 ! Argument",
                "setLimit 60 = 200", "undo = 3", "setLimit 77 = 200");
    }

    private static void bells() {
        run("promise 14, other phases", "rings 0 = 0", "lift 0 = 1", "rings 0 = 0", "dial 0 1 = 6",
                "rings 0 = 0", "rings 2 ! Index", "rings -1 ! Index", "rings 2147483647 ! Index");
        run("promise 14, phase 3: short and long rings, and the second round",
                "lift 0 = 1", "dial 0 6 = 2", "rings 1 = 2", "tick 2 = 2", "rings 1 = 2",
                "tick 1 = 2", "rings 1 = 0", "tick 1 = 2", "rings 1 = 2", "tick 3 = 2",
                "rings 1 = 0", "tick 3 = 2", "rings 1 = 0", "tick 1 = 2", "rings 1 = 2");
    }

    private static void bellsWhileReverting() {
        run("promise 14, silence in phase 8", "lift 0 = 1", "dial 0 1 = 6", "hang 0 = 7",
                "rings 0 = 2", "lift 1 = 8", "rings 0 = 0");
    }

    private static void wouldDial() {
        run("promise 15",
                "wouldDial 0 0 = 5", "wouldDial 0 7 = 5", "wouldDial 0 -1 = 5", "wouldDial 0 1 = 6",
                "wouldDial 0 4 = 2", "wouldDial 0 2147483647 = 5", "lift 4 = 1", "wouldDial 0 5 = 5",
                "wouldDial 4 0 = 2", "wouldDial 5 0 = 2", "wouldDial 5 4 = 6", "dial 4 0 = 2",
                "wouldDial 4 0 = 5", "wouldDial 4 5 = 6", "wouldDial 1 2 = 6", "told 3 = 0",
                "hang 4 = 0", "fault 1 5 0 = 2", "wouldDial 0 5 = 5", "wouldDial 4 5 = 5",
                "wouldDial 5 4 = 6", "wouldDial 5 0 = 2", "wouldDial 5 6 = 5", "wouldDial 0 4 = 2",
                "wouldDial 7 0 ! Index", "wouldDial -1 0 ! Index", "wouldDial 7 -1 ! Index");
    }

    private static void told() {
        run("promise 16",
                "told 6 ! Argument", "told -1 ! Argument", "told 2147483647 ! Argument",
                "lift 0 = 1", "dial 0 4 = 2", "lift 4 = 4", "told 0 = 1", "undo = 3", "told 0 = 0",
                "lift 4 = 4", "hang 4 = 0", "hang 0 = 0", "lift 0 = 1", "dial 0 4 = 2", "lift 5 = 4",
                "told 0 = 2", "lift 1 = 4", "told 4 = 1", "set 0 1 1 = 0", "lift 2 = 4",
                "told 5 = 1", "hang 2 = 4", "lift 2 = 4", "told 5 = 2", "undo = 3", "told 5 = 1",
                "told 1 = 0", "told 2 = 0", "told 3 = 0");
        run("promise 16, by faults and mending nobody begins to listen by lifting",
                "fault 0 8 0 = 1", "lift 3 = 0", "lift 0 = 1", "mend 0 = 8", "subscriber 3 6 = 3",
                "told 4 = 0");
    }
}
