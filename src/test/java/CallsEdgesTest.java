/** The edges of PHASES, LIFTING, HANGING UP and DIALING and of the promises 9 to 11, 15 and 16. */
final class CallsEdgesTest {
    private CallsEdgesTest() {
    }

    public static void main(String[] args) {
        liftInEachPhase();
        liftWithPrivacyInEachPhase();
        liftWhenCutOffInEachPhase();
        liftOfTheFirstParty();
        liftRefusedInEachPhase();
        nobodyListensWhereNobodyIsOff();
        secondPartyInPhaseSix();
        lockedOutUntilItHangsUp();
        lockedOutUntilTheLoopIsLeft();
        timerBeginsAgainInTheSamePhase();
        hangInEachPhase();
        hangWithAListenerInEachPhase();
        listenersHangUp();
        endOfTheOtherEnd();
        leavingAFullLoop();
        dialInEachPhase();
        noSubscriberOfThatNumber();
        dialACutOffOne();
        dialBusyInEachPhase();
        dialAFreeLoopWithACutOffReceiver();
        wouldDialInEachPhase();
        toldWhat();
        toldCountsNothingElse();
        Script.end();
    }

    private static String tick(int phase) {
        return "tick 2 = " + Scene.IN_USE[phase];
    }

    private static void liftInEachPhase() {
        int[] after = {1, 1, 2, 4, 4, 5, 6, 8, 8};
        int[] standing = {2, 3, 3, 2, 3, 3, 3, 2, 3};
        for (int phase = 0; phase <= 8; phase++) {
            boolean listens = standing[phase] == 3;
            int first = phase == 0 || phase == 3 ? 2 : 0;
            int second = phase < 6 ? -1 : phase == 7 ? 2 : 1;
            Scene.inPhase(phase).add(tick(phase), "lift 2 = " + after[phase],
                    "subscriber 2 6 = " + standing[phase], "loop 0 1 = " + (listens ? 2 : 0),
                    "loop 0 2 = " + first, "loop 0 3 = " + second,
                    "told 0 = " + (phase == 3 || phase == 4 ? 1 : 0),
                    "told 1 = " + (phase >= 7 ? 1 : 0), "told 4 = " + (listens ? 1 : 0),
                    "told 5 = 0").run("lifting in phase " + phase);
        }
    }

    private static void liftWithPrivacyInEachPhase() {
        for (int phase = 0; phase <= 8; phase++) {
            boolean isLocked = phase == 4 || phase == 8;
            boolean listens = phase == 1 || phase == 2 || phase == 5 || phase == 6;
            Scene.inPhase(phase).add("set 0 1 1 = 0", "set 1 1 1 = 0", "set 4 1 1 = 0",
                    tick(phase), "lift 2 = " + new int[] {1, 1, 2, 4, 4, 5, 6, 8, 8}[phase],
                    "subscriber 2 6 = " + (isLocked ? 4 : listens ? 3 : 2),
                    "told 4 = " + (listens ? 1 : 0), "told 5 = " + (isLocked ? 1 : 0))
                    .run("locked out in phase 4 or 8, lifting in phase " + phase);
        }
        Scene.inPhase(4).add("set 4 1 1 = 0", "lift 2 = 4", "subscriber 2 6 = 3", "lift 5 = 4",
                "subscriber 5 6 = 4", "set 0 1 1 = 0", "lift 1 = 4", "subscriber 1 6 = 4",
                "subscriber 2 6 = 3").run("only a party of the loop itself locks out");
        Scene.inPhase(8).add("set 0 1 1 = 0", "lift 2 = 8", "subscriber 2 6 = 4")
                .run("in phase 8 also the first party, if it is on the hook");
        Scene.inPhase(8).add("set 0 1 1 = 0", "set 1 1 1 = 0", "lift 0 = 8", "subscriber 0 6 = 2",
                "told 5 = 0", "told 4 = 0", "told 1 = 1").run("in phase 8 the first party talks");
        Scene.inPhase(8).add("set 2 1 1 = 0", "set 3 1 1 = 0", "lift 2 = 8", "lift 3 = 8",
                "subscriber 3 6 = 3").run("the privacy of listeners locks nobody out");
    }

    private static void liftWhenCutOffInEachPhase() {
        for (int phase = 0; phase <= 8; phase++) {
            Scene.people().add("fault 0 12 0 = 1").add(Scene.toPhase(phase)).add(tick(phase),
                    "lift 3 = " + phase, "subscriber 3 5 = 1", "subscriber 3 6 = 1", "loop 0 1 = 2",
                    "loop 0 2 = " + (phase == 0 ? -1 : 0), "told 4 = 0", "told 5 = 0",
                    "lift 3 ! State", "hang 3 = " + phase, "subscriber 3 6 = 0", "loop 0 1 = 2",
                    "hang 3 ! State").run("if it is cut off, nothing else happens; phase " + phase);
        }
    }

    private static void liftOfTheFirstParty() {
        Scene.inPhase(3).add(tick(3), "lift 0 = 4", "loop 0 2 = 0", "loop 0 5 = 0", "loop 1 0 = 4",
                "loop 1 5 = 1", "loop 1 1 = 0", "loop 0 1 = 0").run("who is rung answers");
        Scene.inPhase(7).add(tick(7), "lift 0 = 1", "loop 0 2 = 0", "loop 0 3 = -1",
                "loop 0 1 = 0", "subscriber 0 6 = 2", "told 1 = 0", "told 4 = 0", "dial 0 1 = 6")
                .run("in phase 7 the first party gives up");
        Scene.inPhase(7).add(tick(7), "lift 1 = 8", "loop 0 2 = 0", "loop 0 3 = 1", "loop 0 1 = 0",
                "subscriber 0 6 = 0", "subscriber 1 6 = 2").run("in phase 7 who was dialed answers");
        Scene.inPhase(7).add("lift 3 = 8", "loop 0 3 = 3", "lift 1 = 8", "subscriber 1 6 = 3",
                "hang 1 = 8", "hang 3 = 0").run("in place of the one that was dialed");
        Scene.inPhase(8).add(tick(8), "lift 0 = 8", "subscriber 0 6 = 2", "loop 0 1 = 2",
                "loop 0 2 = 0", "loop 0 3 = 1", "told 1 = 1").run("in phase 8 the first party talks");
    }

    private static void liftRefusedInEachPhase() {
        int[] off = {-1, 0, 0, -1, 0, 0, 0, -1, 1};
        for (int phase = 0; phase <= 8; phase++) {
            Rows rows = Scene.inPhase(phase);
            for (int i = 0; i < 4; i++) {
                rows.add(i == off[phase] ? "lift " + i + " ! State" : "hang " + i + " ! State");
            }
            rows.run("off the hook already, or on it, in phase " + phase);
        }
    }

    private static void nobodyListensWhereNobodyIsOff() {
        Scene.people().add("lift 2 = 1", "hang 2 = 0", "subscriber 2 6 = 0", "loop 0 2 = -1",
                "lift 2 = 1", "lift 1 = 1", "hang 1 = 1", "hang 2 = 0", "loop 0 0 = 0")
                .run("free: nobody is off the hook");
        Scene.people().add("fault 0 6 0 = 2", "lift 3 = 0", "lift 2 = 0", "lift 1 = 1", "hang 1 = 0",
                "subscriber 2 6 = 1", "subscriber 3 6 = 1", "loop 0 0 = 0", "tick 1 = 0")
                .run("free: except subscribers that are cut off");
    }

    private static void secondPartyInPhaseSix() {
        Scene.people().add("lift 0 = 1", "lift 1 = 1", "subscriber 1 6 = 3", tick(1), "dial 0 1 = 6",
                "subscriber 1 6 = 3", "loop 0 3 = 1", "hang 1 = 6", "loop 0 3 = 1", "lift 1 = 6",
                "subscriber 1 6 = 3", "told 4 = 2", "hang 1 = 6", "hang 0 = 7", "loop 0 3 = 1")
                .run("in phase 6 the second party is no party, and goes on listening");
    }

    private static void lockedOutUntilItHangsUp() {
        Scene.inPhase(4).add("set 0 1 1 = 0", "lift 1 = 4", "lift 2 = 4", "set 0 1 0 = 1",
                "subscriber 1 6 = 4", "hang 1 = 4", "subscriber 1 6 = 0", "lift 1 = 4",
                "subscriber 1 6 = 3", "subscriber 2 6 = 4", "told 5 = 2", "told 4 = 1")
                .run("locked out until it hangs up");
    }

    private static void lockedOutUntilTheLoopIsLeft() {
        Scene.inPhase(4).add("set 0 1 1 = 0", "lift 1 = 4", "lift 2 = 4", "hang 0 = 5",
                "loop 0 2 = 1", "subscriber 1 6 = 2", "subscriber 2 6 = 3")
                .run("locked out until the loop is left");
        Scene.inPhase(4).add("set 0 1 1 = 0", "lift 1 = 4", "hang 4 = 0", "loop 0 0 = 5",
                "loop 0 2 = 0", "subscriber 1 6 = 4", "tick 200 = 1", "subscriber 1 6 = 4",
                "lift 2 = 5", "subscriber 2 6 = 3", "hang 1 = 5", "lift 1 = 5", "subscriber 1 6 = 3",
                "told 5 = 1", "told 4 = 2").run("its loop is not left when the other one ends the call");
        Scene.inPhase(8).add("set 1 1 1 = 0", "lift 2 = 8", "lift 3 = 8", "subscriber 3 6 = 4",
                "hang 2 = 8", "subscriber 3 6 = 4", "hang 1 = 5", "loop 0 2 = 3",
                "subscriber 3 6 = 2").run("locked out in phase 8 until the loop is left");
    }

    private static void timerBeginsAgainInTheSamePhase() {
        Scene.people().add("lift 2 = 1", "lift 3 = 1", "dial 2 2 = 5", "tick 9 = 1", "loop 0 1 = 9",
                "hang 2 = 5", "loop 0 1 = 0", "loop 0 2 = 3", "loop 1 1 = 9")
                .run("the timer becomes 0, also in the phase in which the loop is");
        Scene.people().add("tick 9 = 0", "fault 0 1 0 = 4", "loop 0 0 = 0", "loop 0 1 = 0")
                .run("the timer becomes 0 when a free loop is left");
    }

    /** In phase 8 it is the second party that hangs up; in the others the first one. */
    private static void hangInEachPhase() {
        int[] after = {0, 0, 0, 0, 0, 0, 7, 0, 0};
        int[] far = {0, 0, 0, 0, 5, 0, 0, 0, 0};
        for (int phase : new int[] {1, 2, 4, 5, 6, 8}) {
            Scene.inPhase(phase).add(tick(phase), "hang " + (phase == 8 ? 1 : 0) + " = "
                    + after[phase], "loop 0 1 = 0", "loop 0 2 = " + (phase == 6 ? 0 : -1),
                    "loop 0 3 = " + (phase == 6 ? 1 : -1), "loop 0 4 = -1", "loop 0 5 = 0",
                    "loop 1 0 = " + far[phase], "loop 1 4 = -1",
                    "loop 1 1 = " + (phase == 2 || phase == 4 ? 0 : 2), "told 2 = 0")
                    .run("a party hangs up in phase " + phase);
        }
        Scene.inPhase(8).add("lift 0 = 8", tick(8), "hang 0 = 5", "loop 0 2 = 1", "loop 0 3 = -1",
                "loop 0 1 = 0", "subscriber 1 6 = 2").run("the first party hangs up in phase 8");
    }

    private static void hangWithAListenerInEachPhase() {
        for (int phase : new int[] {1, 2, 4, 5, 6, 8}) {
            Scene.inPhase(phase).add("lift 2 = " + phase, "lift 3 = " + phase, tick(phase),
                    "hang " + (phase == 8 ? 1 : 0) + " = 5", "loop 0 1 = 0", "loop 0 2 = 2",
                    "loop 0 3 = -1", "loop 0 4 = -1", "subscriber 2 6 = 2", "subscriber 3 6 = 3",
                    "hang 3 = 5", "hang 2 = 0").run("others are off the hook, phase " + phase);
        }
        Scene.people().add("fault 0 12 0 = 1", "lift 3 = 0", "lift 0 = 1", "dial 0 1 = 6",
                "lift 2 = 6", "hang 2 = 6", "hang 0 = 7").run("in phase 6 only one that is cut off");
    }

    private static void listenersHangUp() {
        for (int phase : new int[] {1, 2, 4, 5, 6, 8}) {
            Scene.inPhase(phase).add("lift 2 = " + phase, tick(phase), "hang 2 = " + phase,
                    "loop 0 1 = 2", "subscriber 2 6 = 0", "loop 0 2 = 0")
                    .run("if it listened, nothing else happens; phase " + phase);
        }
        for (int phase : new int[] {4, 8}) {
            Scene.inPhase(phase).add("set 0 1 1 = 0", "lift 2 = " + phase, "subscriber 2 6 = 4",
                    tick(phase), "hang 2 = " + phase, "loop 0 1 = 2", "subscriber 2 6 = 0")
                    .run("if it was locked out, nothing else happens; phase " + phase);
        }
    }

    private static void endOfTheOtherEnd() {
        Scene.inPhase(2).add("tick 3 = 2", "hang 0 = 0", "loop 1 0 = 0", "loop 1 1 = 0",
                "loop 1 2 = -1", "loop 1 4 = -1", "loop 0 4 = -1")
                .run("the other end comes to phase 0, if it is in phase 3");
        Scene.inPhase(4).add("lift 5 = 4", "lift 6 = 4", "tick 3 = 2", "hang 0 = 0", "loop 1 0 = 5",
                "loop 1 1 = 0", "loop 1 2 = 4", "loop 1 4 = -1", "loop 0 4 = -1", "subscriber 5 6 = 3",
                "subscriber 4 6 = 2").run("otherwise to phase 5, with its first party");
        Scene.inPhase(4).add("lift 5 = 4", "hang 5 = 4", "lift 1 = 4", "hang 4 = 0",
                "loop 0 0 = 5", "loop 0 2 = 0", "loop 0 5 = 0", "subscriber 1 6 = 3", "loop 0 4 = -1")
                .run("the caller comes to phase 5, with its first party");
        Scene.people().add("lift 6 = 1", "dial 6 3 = 2", "lift 3 = 4", "lift 0 = 4", "lift 4 = 4",
                "hang 3 = 5", "loop 0 2 = 0", "loop 1 0 = 5", "loop 1 2 = 6")
                .run("the lowest of the loop itself, but the first party of the other one");
    }

    /** All fourteen are off the hook: each time the lowest one of the others gets the tone. */
    private static void leavingAFullLoop() {
        Rows rows = Scene.fullLoop().add("lift 13 = 1");
        for (int i = 0; i < 13; i++) {
            rows.add("lift " + i + " = 1", "subscriber " + i + " 6 = 3", "told 4 = " + (i + 1));
        }
        rows.add("hang 13 = 5", "loop 0 2 = 0", "subscriber 0 6 = 2", "subscriber 12 6 = 3");
        for (int i = 0; i < 12; i++) {
            rows.add("hang " + i + " = 5", "loop 0 2 = " + (i + 1));
        }
        rows.add("hang 12 = 0", "loop 0 2 = -1").run("everybody is off the hook, and then nobody");
    }

    private static void dialInEachPhase() {
        for (int phase = 0; phase <= 8; phase++) {
            Rows rows = Scene.inPhase(phase);
            for (int i = 3; i >= 0; i--) {
                rows.add(phase == 1 && i == 0 ? "dial 0 5 = 2" : "dial " + i + " 5 ! State");
            }
            rows.run("only the first party of a loop in phase 1 dials; phase " + phase);
        }
        Scene.people().add("lift 2 = 1", "lift 0 = 1", "lift 3 = 1", "dial 0 4 ! State",
                "dial 3 4 ! State", "dial 0 -1 ! State", "dial 2 4 = 2")
                .run("who listens in phase 1 does not dial");
        Scene.inPhase(1).add("tick 11 = 1", "dial 0 4 = 2").run("the last tick in which it can dial");
        Scene.inPhase(1).add("tick 12 = 1", "dial 0 4 ! State").run("one tick too late to dial");
    }

    private static void noSubscriberOfThatNumber() {
        for (String none : new String[] {"-1", "7", "16", Scene.MIN, Scene.MAX}) {
            Scene.inPhase(1).add("wouldDial 0 " + none + " = 5", "tick 2 = 1", "dial 0 " + none
                    + " = 5", "loop 0 1 = 0", "loop 0 2 = 0", "loop 0 3 = -1", "loop 0 4 = -1",
                    "told 3 = 1").run("there is no subscriber n: " + none);
        }
        Scene.inPhase(1).add("wouldDial 0 6 = 2", "dial 0 6 = 2", "loop 1 2 = 6", "told 3 = 0")
                .run("the last subscriber that there is");
        Scene.people().add("lift 4 = 1", "wouldDial 4 0 = 2", "dial 4 0 = 2", "loop 0 2 = 0",
                "told 3 = 0").run("the first subscriber that there is");
        Scene.full().add("lift 1 = 1", "wouldDial 1 15 = 2", "wouldDial 1 16 = 5", "dial 1 15 = 2",
                "loop 0 2 = 15").run("the last of sixteen");
        Scene.inPhase(1).add("wouldDial 0 0 = 5", "dial 0 0 = 5", "told 3 = 1", "loop 0 3 = -1")
                .run("it is the party itself");
    }

    private static void dialACutOffOne() {
        for (int span = 4; span <= 8; span++) {
            boolean isCut = span <= 5;
            Scene.people().add("fault 1 " + span + " 0 = " + (span <= 5 ? 2 : span <= 7 ? 1 : 0),
                    "lift 0 = 1", "wouldDial 0 5 = " + (isCut ? 5 : 2), "dial 0 5 = "
                    + (isCut ? 5 : 2), "told 3 = " + (isCut ? 1 : 0),
                    "loop 1 0 = " + (isCut ? 0 : 3)).run("cut off by an open at span " + span);
            boolean isCutHere = span <= 6;
            Scene.people().add("fault 0 " + span + " 0 = " + (span <= 4 ? 3 : span <= 6 ? 2 : 1),
                    "lift 0 = 1", "wouldDial 0 2 = " + (isCutHere ? 5 : 6), "dial 0 2 = "
                    + (isCutHere ? 5 : 6), "told 3 = " + (isCutHere ? 1 : 0))
                    .run("cut off in the same loop by an open at span " + span);
        }
        Scene.people().add("fault 1 12 1 = 3", "lift 0 = 1", "dial 0 4 = 5", "told 3 = 1")
                .run("cut off by a short");
    }

    private static void dialBusyInEachPhase() {
        for (int phase = 0; phase <= 8; phase++) {
            int due = phase == 0 ? 2 : 5;
            Scene.inPhase(phase).add("addLoop = 2", "addSubscriber 2 1 1 = 7", "lift 7 = 1",
                    "wouldDial 7 3 = " + due, "tick 1 = " + (Scene.IN_USE[phase] + 1),
                    "dial 7 3 = " + due, "told 3 = " + (phase == 0 ? 0 : phase == 5 ? 2 : 1),
                    "loop 0 0 = " + (phase == 0 ? 3 : phase), "loop 0 1 = " + (phase == 0 ? 0 : 1),
                    "loop 2 1 = 0", "loop 2 4 = " + (phase == 0 ? 0 : -1))
                    .run("the loop of n is not in phase 0, but in " + phase);
        }
    }

    private static void dialAFreeLoopWithACutOffReceiver() {
        Scene.people().add("fault 0 12 0 = 1", "lift 3 = 0", "lift 4 = 1", "wouldDial 4 0 = 2",
                "wouldDial 4 3 = 5", "dial 4 0 = 2", "loop 0 0 = 3", "subscriber 3 6 = 1")
                .run("a free loop in which one that is cut off is off the hook");
    }

    private static void wouldDialInEachPhase() {
        int[] far = {2, 2, 5, 5, 5, 2, 2, 2, 2};
        for (int phase = 0; phase <= 8; phase++) {
            Rows rows = Scene.inPhase(phase);
            for (int i = 0; i < 4; i++) {
                rows.add("wouldDial " + i + " " + (i + 1) % 4 + " = 6", "wouldDial " + i + " "
                        + i + " = 5", "wouldDial " + i + " 4 = " + far[phase],
                        "wouldDial " + i + " 7 = 5", "wouldDial " + i + " -1 = 5");
            }
            rows.run("everything else being as it is, in phase " + phase);
        }
        Scene.people().add("fault 0 1 1 = 4", "wouldDial 0 4 = 2", "wouldDial 0 1 = 5",
                "wouldDial 0 0 = 5", "lift 0 = 0", "wouldDial 0 4 = 2", "wouldDial 4 0 = 5",
                "wouldDial 4 7 = 5", "wouldDial 7 4 ! Index", "wouldDial 7 7 ! Index",
                "wouldDial -1 -1 ! Index").run("a subscriber that is cut off would dial");
    }

    private static void toldWhat() {
        Script.run("what is 0 to 5", "told -1 ! Argument", "told 0 = 0", "told 5 = 0",
                "told 6 ! Argument", "told " + Scene.MIN + " ! Argument",
                "told " + Scene.MAX + " ! Argument");
    }

    private static void toldCountsNothingElse() {
        Scene.inPhase(1).add("tick 12 = 1", "loop 0 0 = 5", "told 3 = 0")
                .run("a tone by the timer is no number dialed");
        Scene.inPhase(1).add("wouldDial 0 0 = 5", "told 3 = 0").run("asking is no dialing");
        Scene.inPhase(2).add("hang 0 = 0", "told 2 = 0").run("giving up is no lost call");
        Scene.inPhase(7).add("lift 0 = 1", "told 2 = 0", "told 1 = 0")
                .run("giving up in phase 7 is neither lost nor answered");
        Scene.inPhase(4).add("set 0 1 1 = 0", "lift 1 = 4", "told 5 = 1", "told 4 = 0", "hang 0 = 5",
                "subscriber 1 6 = 2", "told 4 = 0", "told 0 = 1")
                .run("who gets the tone did not begin to listen by lifting");
        Scene.inPhase(8).add("lift 0 = 8", "hang 0 = 5", "told 1 = 1", "told 0 = 0", "told 2 = 0")
                .run("a call in the loop is counted once");
        Scene.inPhase(4).add("lift 1 = 4", "told 4 = 1", "undo = 3", "told 4 = 0", "undo = 2",
                "told 0 = 0", "lift 5 = 4", "told 0 = 1").run("counts are restored by undo()");
    }
}
