/** Promises 1 to 8: a new object, loops and subscribers. */
final class LoopsTest {
    private static final String MIN = String.valueOf(Integer.MIN_VALUE);
    private static final String MAX = String.valueOf(Integer.MAX_VALUE);

    private LoopsTest() {
    }

    public static void main(String[] args) {
        newObject();
        addLoop();
        addedLoopIsFree();
        addSubscriber();
        sixteenSubscribers();
        addSubscriberRefused();
        addSubscriberWhileRung();
        setCode();
        setPrivacyAndWeight();
        setRefused();
        setWhileRung();
        counts();
        subscriberValues();
        loopValues();
        Script.end();
    }

    private static void newObject() {
        Script.run("promise 1",
                "loops = 2", "subscribers = 0",
                "loop 0 0 = 0", "loop 0 1 = 0", "loop 0 2 = -1", "loop 0 3 = -1", "loop 0 4 = -1",
                "loop 0 5 = 0", "loop 0 6 = -1", "loop 0 7 = 0", "loop 0 8 = 0",
                "loop 1 0 = 0", "loop 1 1 = 0", "loop 1 2 = -1", "loop 1 3 = -1", "loop 1 4 = -1",
                "loop 1 5 = 0", "loop 1 6 = -1", "loop 1 7 = 0", "loop 1 8 = 0",
                "told 0 = 0", "told 1 = 0", "told 2 = 0", "told 3 = 0", "told 4 = 0", "told 5 = 0",
                "loop 2 0 ! Index", "subscriber 0 0 ! Index", "undo ! State",
                "setRisk 0 1 2 = 1", "setRisk 1 12 2 = 1", "setLimit 10 = 60");
        Script.due("NONE", -1, PartyLines.NONE);
    }

    private static void addLoop() {
        Script.run("promise 2",
                "addLoop = 2", "loops = 3", "addLoop = 3", "addLoop = 4", "loops = 5",
                "addLoop ! State", "loops = 5", "undo = 2", "loops = 4", "addLoop = 4",
                "addLoop ! State");
    }

    private static void addedLoopIsFree() {
        Script.run("promise 2, a loop is added again after undo()",
                "addLoop = 2", "addSubscriber 2 4 1 = 0", "setRisk 2 3 9 = 1", "fault 2 4 0 = 1",
                "undo = 3", "undo = 2", "undo = 1", "undo = 0",
                "tick 5 = 0", "addLoop = 2", "loop 2 0 = 0", "loop 2 1 = 0", "loop 2 2 = -1",
                "loop 2 6 = -1", "loop 2 8 = 0", "setRisk 2 3 5 = 1", "loop 0 1 = 5");
        Script.run("promise 2, the rows of a dropped loop are not seen in a new one",
                "addLoop = 2", "setRisk 2 3 9 = 1", "fault 2 7 1 = 0", "tick 9 = 0",
                "undo = 3", "undo = 2", "undo = 1", "undo = 0", "addLoop = 2", "loop 2 1 = 0",
                "loop 2 6 = -1", "loop 2 7 = 0", "setRisk 2 3 1 = 1");
    }

    private static void addSubscriber() {
        Script.run("promise 3",
                "addSubscriber 0 1 1 = 0", "addSubscriber 0 12 14 = 1", "addSubscriber 1 12 14 = 2",
                "addSubscriber 0 1 2 = 3", "subscribers = 4",
                "subscriber 0 3 = 0", "subscriber 0 4 = 1", "subscriber 0 0 = 1",
                "subscriber 1 4 = 12", "subscriber 1 0 = 14", "subscriber 2 3 = 1",
                "subscriber 0 1 = 0", "subscriber 0 2 = 1", "subscriber 0 5 = 0",
                "subscriber 0 6 = 0", "subscriber 0 7 = 0", "undo = 3", "subscribers = 3");
        Script.run("promise 3, nothing of an undone subscriber comes back",
                "addSubscriber 1 9 9 = 0", "set 0 1 1 = 0", "set 0 2 50 = 1", "lift 0 = 1",
                "undo = 3", "undo = 2", "undo = 1", "undo = 0", "addSubscriber 0 2 3 = 0",
                "subscriber 0 0 = 3", "subscriber 0 1 = 0", "subscriber 0 2 = 1",
                "subscriber 0 3 = 0", "subscriber 0 4 = 2", "subscriber 0 5 = 0",
                "subscriber 0 7 = 0");
    }

    private static void sixteenSubscribers() {
        String[] rows = new String[16];
        for (int i = 0; i < 16; i++) {
            rows[i] = "addSubscriber " + i / 14 + " " + (1 + i % 12) + " " + (1 + i % 14)
                    + " = " + i;
        }
        Script.run("promise 3, sixteen", Script.join(rows,
                "subscribers = 16", "loop 0 8 = 14", "loop 1 8 = 2",
                "addSubscriber 1 1 9 ! State", "addSubscriber 1 1 1 ! State",
                "addSubscriber 2 1 9 ! Index", "addSubscriber 1 13 9 ! Argument",
                "subscriber 15 3 = 1", "subscriber 16 3 ! Index", "undo = 3", "subscribers = 15",
                "addSubscriber 1 1 9 = 15"));
    }

    private static void addSubscriberRefused() {
        Script.run("promise 3, wrong inputs",
                "addSubscriber 2 1 1 ! Index", "addSubscriber -1 1 1 ! Index",
                "addSubscriber 2 0 0 ! Index", "addSubscriber " + MIN + " 1 1 ! Index",
                "addSubscriber " + MAX + " 1 1 ! Index",
                "addSubscriber 0 0 1 ! Argument", "addSubscriber 0 13 1 ! Argument",
                "addSubscriber 0 1 0 ! Argument", "addSubscriber 0 1 15 ! Argument",
                "addSubscriber 0 " + MIN + " 1 ! Argument", "addSubscriber 0 1 " + MAX
                        + " ! Argument",
                "addSubscriber 0 1 1 = 0", "addSubscriber 0 5 1 ! State",
                "addSubscriber 0 0 1 ! Argument", "addSubscriber 1 1 1 = 1",
                "addSubscriber 1 1 1 ! State", "subscribers = 2");
    }

    private static void addSubscriberWhileRung() {
        Script.run("promise 3, in all phases",
                "addSubscriber 0 1 1 = 0", "addSubscriber 1 1 1 = 1", "lift 0 = 1", "dial 0 1 = 2",
                "addSubscriber 1 2 2 = 2", "addSubscriber 0 2 2 = 3", "loop 1 0 = 3",
                "lift 2 = 4", "loop 1 2 = 2", "lift 3 = 4", "subscriber 3 6 = 3");
    }

    private static void setCode() {
        Script.run("promise 4, codes",
                "addSubscriber 0 1 1 = 0", "addSubscriber 0 1 2 = 1", "addSubscriber 1 1 3 = 2",
                "set 0 0 14 = 1", "subscriber 0 0 = 14", "set 0 0 14 = 14", "set 0 0 3 = 14",
                "set 0 0 2 ! State", "set 1 0 3 ! State", "set 1 0 1 = 2", "set 2 0 1 = 3",
                "undo = 3", "subscriber 2 0 = 3");
    }

    private static void setPrivacyAndWeight() {
        Script.run("promise 4, privacy and weight",
                "addSubscriber 0 1 1 = 0", "addSubscriber 0 1 2 = 1",
                "set 0 1 1 = 0", "subscriber 0 1 = 1", "set 0 1 1 = 1", "set 0 1 0 = 1",
                "subscriber 0 1 = 0", "subscriber 1 1 = 0",
                "set 1 2 0 = 1", "set 1 2 99 = 0", "subscriber 1 2 = 99", "subscriber 0 2 = 1",
                "subscriber 1 1 = 0", "subscriber 1 0 = 2");
    }

    private static void setRefused() {
        Script.run("promise 4, wrong inputs",
                "set 0 0 1 ! Index", "addSubscriber 0 1 1 = 0", "addSubscriber 0 1 2 = 1",
                "set 2 0 1 ! Index", "set -1 0 1 ! Index", "set 2 9 99 ! Index",
                "set " + MAX + " 0 1 ! Index",
                "set 0 3 1 ! Argument", "set 0 -1 1 ! Argument", "set 0 " + MIN + " 1 ! Argument",
                "set 0 0 0 ! Argument", "set 0 0 15 ! Argument", "set 0 1 2 ! Argument",
                "set 0 1 -1 ! Argument", "set 0 2 -1 ! Argument", "set 0 2 100 ! Argument",
                "set 0 2 " + MAX + " ! Argument", "set 0 0 2 ! State", "set 0 1 1 = 0",
                "set 0 2 2 = 1");
    }

    private static void setWhileRung() {
        Script.run("promise 4, while codes are rung",
                "addSubscriber 0 1 1 = 0", "addSubscriber 1 1 1 = 1", "addSubscriber 1 1 2 = 2",
                "lift 0 = 1", "set 0 0 5 = 1", "dial 0 1 = 2", "loop 1 0 = 3",
                "set 1 0 7 ! State", "set 1 0 1 ! State", "set 2 0 7 ! State",
                "set 1 0 15 ! Argument", "set 1 1 1 = 0", "set 2 2 5 = 1", "set 0 0 6 = 5",
                "lift 1 = 4", "set 1 0 7 = 1", "hang 1 = 0",
                "lift 1 = 1", "dial 1 2 = 6", "set 2 0 8 = 2", "hang 1 = 7",
                "set 1 0 9 ! State", "set 2 0 8 ! State", "set 1 1 0 = 1", "set 1 2 3 = 1",
                "lift 2 = 8", "set 1 0 9 = 7");
    }

    private static void counts() {
        Script.run("promises 5 and 6",
                "loops = 2", "subscribers = 0", "addLoop = 2", "addSubscriber 2 1 1 = 0",
                "loops = 3", "subscribers = 1", "undo = 1", "subscribers = 0", "loops = 3",
                "undo = 0", "loops = 2");
    }

    private static void subscriberValues() {
        Script.run("promise 7",
                "addSubscriber 0 3 4 = 0", "addSubscriber 0 8 5 = 1", "addSubscriber 0 9 6 = 2",
                "set 1 1 1 = 0", "set 1 2 17 = 1",
                "subscriber 1 0 = 5", "subscriber 1 1 = 1", "subscriber 1 2 = 17",
                "subscriber 1 3 = 0", "subscriber 1 4 = 8", "subscriber 1 5 = 0",
                "subscriber 1 6 = 0", "subscriber 1 7 = 0",
                "lift 1 = 1", "subscriber 1 5 = 1", "subscriber 1 6 = 2",
                "lift 0 = 1", "subscriber 0 5 = 1", "subscriber 0 6 = 3",
                "fault 0 9 0 = 1", "lift 2 = 5", "subscriber 2 5 = 1", "subscriber 2 6 = 1",
                "subscriber 1 8 ! Argument", "subscriber 1 -1 ! Argument",
                "subscriber 1 " + MAX + " ! Argument", "subscriber 3 0 ! Index",
                "subscriber -1 0 ! Index", "subscriber 3 8 ! Index",
                "subscriber " + MIN + " 0 ! Index");
    }

    private static void loopValues() {
        Script.run("promise 8",
                "addSubscriber 0 3 4 = 0", "addSubscriber 1 8 5 = 1", "addSubscriber 0 9 6 = 2",
                "lift 2 = 1", "loop 0 0 = 1", "loop 0 2 = 2", "loop 0 8 = 2", "tick 3 = 1",
                "loop 0 1 = 3", "loop 1 1 = 3", "dial 2 1 = 2", "loop 0 1 = 0", "loop 1 1 = 0",
                "loop 0 4 = 1", "loop 1 4 = 0", "loop 1 0 = 3", "loop 1 2 = 1", "loop 1 3 = -1",
                "loop 0 5 = 0", "lift 1 = 4", "loop 0 5 = 1", "loop 1 5 = 0", "loop 1 8 = 1",
                "hang 2 = 0", "loop 0 2 = -1", "loop 0 4 = -1", "loop 0 5 = 0", "loop 1 0 = 5",
                "loop 1 2 = 1", "loop 1 4 = -1", "hang 1 = 0", "loop 1 2 = -1",
                "lift 0 = 1", "dial 0 2 = 6", "loop 0 3 = 2", "hang 0 = 7", "loop 0 3 = 2",
                "loop 0 2 = 0", "lift 2 = 8", "loop 0 3 = 2", "hang 2 = 0", "loop 0 3 = -1",
                "fault 1 8 1 = 1", "loop 1 6 = 8", "loop 1 7 = 1", "loop 0 6 = -1",
                "mend 1 = 8", "loop 1 7 = 0", "loop 1 6 = -1", "fault 1 3 0 = 1", "loop 1 6 = 3",
                "loop 1 7 = 0",
                "loop 0 9 ! Argument", "loop 0 -1 ! Argument", "loop 1 " + MIN + " ! Argument",
                "loop 2 0 ! Index", "loop -1 0 ! Index", "loop 2 9 ! Index",
                "loop " + MAX + " 0 ! Index");
    }
}
