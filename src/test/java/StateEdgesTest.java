/** The edges of UNDO and EXCEPTIONS, of the promises 30 and 31, and of an object's 512 calls. */
final class StateEdgesTest {
    private StateEdgesTest() {
    }

    public static void main(String[] args) {
        noStateIsSaved();
        atMostFourStates();
        savedEvenIfNothingChanges();
        eachUndoableCallSaves();
        refusedCallsSaveNothing();
        undoIsNotSaved();
        undoneThingsAreGone();
        firstListedIsThrown();
        firstListedWhileRung();
        firstListedWhenFull();
        noneOnlyWithoutAnException();
        digestOfNobody();
        digestOfAll();
        digestOfSavedStates();
        lastOfManyTicks();
        lastOfManyUndoableCalls();
        lastOfManyRefusedCalls();
        Script.end();
    }

    private static void noStateIsSaved() {
        Script.run("no state is saved", "undo ! State", "undo ! State", "setLimit 60 = 60",
                "undo = 0", "undo ! State", "setLimit 9 ! Argument", "undo ! State");
    }

    private static void atMostFourStates() {
        for (int calls = 1; calls <= 9; calls++) {
            Rows rows = new Rows();
            for (int i = 1; i <= calls; i++) {
                rows.add("setLimit " + (10 + i) + " = " + (i == 1 ? 60 : 9 + i));
            }
            int kept = Math.min(4, calls);
            for (int left = kept - 1; left >= 0; left--) {
                rows.add("undo = " + left);
            }
            int reached = calls - kept;
            rows.add("undo ! State", "setLimit 99 = " + (reached == 0 ? 60 : 10 + reached),
                    "undo = 0").run("at most 4 states are kept, of " + calls);
        }
    }

    private static void savedEvenIfNothingChanges() {
        Scene.people().add("assignCodes 0 = 2", "assignCodes 1 = 2", "set 0 0 1 = 1", "set 0 1 0 = 0",
                "set 0 2 1 = 1", "setLimit 60 = 60", "setRisk 0 1 1 = 1", "assignCodes 0 = 0",
                "undo = 3", "undo = 2", "undo = 1", "undo = 0", "undo ! State", "subscriber 3 0 = 4")
                .run("saves the state before the call, even if nothing changes");
    }

    /** Five subscribers, a fault in loop 1, and three saved states, so that one more is seen. */
    private static Rows threeSaved() {
        return new Rows().add("fault 1 7 0 = 0", "addSubscriber 0 2 1 = 0", "addSubscriber 0 4 2 = 1",
                "addSubscriber 0 6 4 = 2", "addSubscriber 0 12 14 = 3", "addSubscriber 1 3 1 = 4",
                "setLimit 60 = 60", "setLimit 60 = 60", "undo = 3", "undo = 2", "lift 0 = 1");
    }

    private static void eachUndoableCallSaves() {
        String[] calls = {"addLoop = 2", "addSubscriber 0 1 9 = 5", "set 0 0 9 = 1", "set 0 1 1 = 0",
            "set 0 2 9 = 1", "lift 4 = 1", "hang 0 = 0", "dial 0 0 = 5", "dial 0 1 = 6",
            "dial 0 4 = 2", "tick 1 = 1", "tick 200 = 1", "setLimit 10 = 60", "assignCodes 0 = 2",
            "fault 0 1 0 = 4", "fault 0 1 1 = 4", "mend 1 = 7", "setRisk 0 1 9 = 1"};
        for (String call : calls) {
            threeSaved().add(call, "undo = 3", "loop 0 0 = 1", "loop 0 6 = -1", "loop 1 6 = 7",
                    "loops = 2", "subscribers = 5", "undo = 2", "loop 0 0 = 0", "undo = 1",
                    "subscribers = 4", "undo = 0", "subscribers = 3", "undo ! State")
                    .run("saved before " + call);
        }
    }

    private static void refusedCallsSaveNothing() {
        String[] refused = {"addSubscriber 0 1 1 ! State", "set 0 0 2 ! State", "lift 0 ! State",
            "hang 1 ! State", "dial 1 0 ! State", "tick 0 ! Argument", "setLimit 201 ! Argument",
            "assignCodes 2 ! Index", "fault 1 1 0 ! State", "mend 0 ! State",
            "setRisk 0 1 10 ! Argument"};
        for (String call : refused) {
            threeSaved().add(call, call, "undo = 2", "loop 0 0 = 0", "undo = 1", "subscribers = 4")
                    .run("a call that throws saves nothing: " + call);
        }
        new Rows().add("addLoop = 2", "addLoop = 3", "addLoop = 4", "addLoop ! State", "undo = 2",
                "loops = 4").run("a call that throws saves nothing: addLoop");
    }

    private static void undoIsNotSaved() {
        Script.run("undo() restores the latest one and removes it", "setLimit 11 = 60",
                "setLimit 12 = 11", "undo = 1", "setLimit 13 = 11", "undo = 1", "undo = 0",
                "undo ! State", "setLimit 14 = 60");
    }

    private static void undoneThingsAreGone() {
        Scene.full().add("undo = 3", "undo = 2", "undo = 1", "undo = 0", "subscribers = 12",
                "subscriber 11 3 = 1", "subscriber 12 0 ! Index", "lift 12 ! Index", "loop 0 8 = 3",
                "addSubscriber 4 12 14 = 12", "subscriber 12 3 = 4", "loop 4 8 = 3")
                .run("a subscriber whose adding is undone is not there");
        Script.run("a loop whose adding is undone is not there", "addLoop = 2",
                "addSubscriber 2 1 1 = 0", "lift 0 = 1", "undo = 2", "undo = 1", "undo = 0",
                "loop 2 0 ! Index", "rings 2 ! Index", "subscriber 0 3 ! Index", "addLoop = 2",
                "loop 2 0 = 0", "loop 2 8 = 0");
    }

    private static void firstListedIsThrown() {
        Scene.people().add("fault 1 7 0 = 1",
                "addSubscriber 2 0 0 ! Index", "addSubscriber 2 13 1 ! Index",
                "addSubscriber -1 1 15 ! Index", "addSubscriber 0 0 1 ! Argument",
                "addSubscriber 0 13 14 ! Argument", "addSubscriber 0 12 14 ! State",
                "set 7 3 1 ! Index", "set -1 0 15 ! Index", "set 7 0 1 ! Index",
                "set 0 3 2 ! Argument", "set 0 0 15 ! Argument", "set 0 0 2 ! State",
                "subscriber 7 8 ! Index", "subscriber -1 -1 ! Index", "subscriber 6 8 ! Argument",
                "loop 2 9 ! Index", "loop -1 -1 ! Index", "loop 1 9 ! Argument",
                "dial 7 7 ! Index", "dial 6 7 ! State",
                "fault 2 0 0 ! Index", "fault 1 0 0 ! Index", "fault 1 13 1 ! Index",
                "fault 1 12 0 ! State", "setRisk 2 1 0 ! Index", "setRisk 1 13 10 ! Index",
                "setRisk 1 12 10 ! Argument", "test 2 0 ! Index", "test 2 12 ! Index",
                "test 0 0 ! Argument", "test 0 12 ! Argument", "test 0 11 ! State",
                "testCost 2 1 13 ! Index", "testCost -1 2 1 ! Index", "testCost 1 2 1 ! Argument",
                "bestTest 2 1 13 ! Index", "bestTest -1 2 1 ! Index", "bestTest 1 0 1 ! Argument",
                "codeRing 15 -1 ! Argument", "undo = 3").run("the one that is listed first");
    }

    private static void firstListedWhileRung() {
        for (int phase : new int[] {3, 7}) {
            Scene.inPhase(phase).add("set 7 0 1 ! Index", "set 0 0 15 ! Argument",
                    "set 0 0 0 ! Argument", "set 0 3 1 ! Argument", "set 0 0 2 ! State",
                    "set 0 0 1 ! State", "set 0 0 13 ! State", "set 0 1 2 ! Argument",
                    "set 0 2 100 ! Argument", "assignCodes 2 ! Index", "assignCodes 0 ! State")
                    .run("the one that is listed first, while codes are rung in phase " + phase);
        }
    }

    private static void firstListedWhenFull() {
        Scene.full().add("addLoop ! State", "addSubscriber 5 13 15 ! Index",
                "addSubscriber 5 1 14 ! Index", "addSubscriber 4 13 14 ! Argument",
                "addSubscriber 4 12 15 ! Argument", "addSubscriber 4 0 1 ! Argument",
                "addSubscriber 4 12 14 ! State", "addSubscriber 4 12 1 ! State",
                "set 16 0 15 ! Index", "set 15 0 15 ! Argument", "set 15 0 1 ! State",
                "lift 16 ! Index", "hang 16 ! Index", "dial 16 16 ! Index", "wouldDial 16 0 ! Index")
                .run("the one that is listed first, when all is full");
    }

    private static void noneOnlyWithoutAnException() {
        Scene.people().add("codeRing 14 3 = -1", "codeRing 0 3 ! Argument", "codeRing 15 3 ! Argument",
                "bestTest 0 12 12 = -1", "bestTest 2 12 12 ! Index", "bestTest 0 13 13 ! Argument",
                "bestTest 0 0 0 ! Argument", "loop 1 2 = -1", "loop 1 3 = -1", "loop 1 4 = -1",
                "loop 1 6 = -1", "loop 2 2 ! Index", "loop 2 3 ! Index", "loop 2 4 ! Index",
                "loop 2 6 ! Index").run("NONE is returned only if no exception applies");
    }

    private static void digestOfNobody() {
        Party party = new Real();
        Script.due("the digest of two free loops", StateTest.digest(party, new int[2][12], 60, 0),
                party.call("digest"));
        party.call("addLoop");
        party.call("addLoop");
        party.call("addLoop");
        Script.due("the digest of five free loops", StateTest.digest(party, new int[5][12], 60, 3),
                party.call("digest"));
    }

    private static void digestOfAll() {
        Party party = new Real();
        Scene.full().bring(party);
        int[][] moreRisk = new int[5][12];
        for (int loop = 0; loop < 5; loop++) {
            for (int span = 1; span <= 12; span++) {
                moreRisk[loop][span - 1] = (loop * 12 + span) % 9;
                party.call("setRisk", loop, span, 1 + (loop * 12 + span) % 9);
            }
        }
        for (int i = 0; i < 16; i++) {
            party.call("set", i, 1, i % 2);
            party.call("set", i, 2, 99 - i * 6);
        }
        party.call("setLimit", 200);
        new Rows().add("lift 0 = 1", "dial 0 1 = 2", "lift 1 = 4", "tick 7 = 2", "lift 5 = 4",
                "lift 11 = 4", "lift 2 = 1", "dial 2 3 = 2", "fault 4 5 0 = 1", "lift 4 = 0",
                "tick 2 = 4").bring(party);
        Script.due("the digest of five loops and sixteen subscribers",
                StateTest.digest(party, moreRisk, 200, 4), party.call("digest"));
        Script.due("the loop that rings is in it", 3, party.call("loop", 3, 0));
        Script.due("the one that is locked out is in it", 4, party.call("subscriber", 11, 6));
    }

    private static void digestOfSavedStates() {
        Party party = new Real();
        for (int i = 1; i <= 6; i++) {
            party.call("setLimit", 60);
            Script.due("the digest after " + i + " calls",
                    StateTest.digest(party, new int[2][12], 60, Math.min(4, i)), party.call("digest"));
        }
        for (int left = 3; left >= 0; left--) {
            party.call("undo");
            Script.due("the digest with " + left + " left",
                    StateTest.digest(party, new int[2][12], 60, left), party.call("digest"));
        }
    }

    private static void lastOfManyTicks() {
        Party party = new Real();
        new Rows().add("addSubscriber 0 1 1 = 0", "addSubscriber 1 1 1 = 1", "lift 0 = 1",
                "dial 0 1 = 2", "lift 1 = 4").bring(party);
        for (int i = 0; i < 505; i++) {
            party.call("tick", 200);
        }
        Script.due("call 511: the timer", 101000, party.call("loop", 0, 1));
        Script.due("call 512: the meter", 16833, party.call("subscriber", 0, 7));
    }

    private static void lastOfManyUndoableCalls() {
        Party party = new Real();
        for (int i = 0; i < 508; i++) {
            party.call("setLimit", 10 + i % 191);
        }
        for (int left = 3; left >= 0; left--) {
            Script.due("call " + (512 - left) + ": undo()", left, party.call("undo"));
        }
        Party other = new Real();
        for (int i = 0; i < 255; i++) {
            other.call("addLoop");
            other.call("undo");
        }
        Script.due("call 511: addLoop()", 2, other.call("addLoop"));
        Script.due("call 512: loops()", 3, other.call("loops"));
    }

    private static void lastOfManyRefusedCalls() {
        Party party = new Real();
        for (int i = 0; i < 511; i++) {
            Script.due("call " + (i + 1) + " is refused", "IndexOutOfBoundsException",
                    Script.answer(party, "lift", i));
        }
        Script.due("call 512: digest()", StateTest.digest(new Real(), new int[2][12], 60, 0),
                party.call("digest"));
    }
}
