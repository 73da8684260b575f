/** The edges of LOOPS AND SUBSCRIBERS and of the promises 1 to 8: a sentence, a test. */
final class LoopsEdgesTest {
    private static final String MIN = Scene.MIN;
    private static final String MAX = Scene.MAX;

    private LoopsEdgesTest() {
    }

    public static void main(String[] args) {
        oneToFiveLoops();
        noSuchLoop();
        twelveSpans();
        atMostSixteenSubscribers();
        noSuchSubscriber();
        positions();
        severalAtOnePosition();
        codes();
        noOtherHasTheCode();
        privacyAndWeight();
        asAtFirst();
        addedLoopIsFree();
        addInEachPhase();
        setInEachPhase();
        subscriberWhat();
        standings();
        loopWhat();
        loopInEachPhase();
        numberOfSubscribersOfALoop();
        Script.end();
    }

    private static void oneToFiveLoops() {
        Script.run("1 to 5 loops, numbered from 0 (at first 2)",
                "loops = 2", "loop 0 0 = 0", "loop 1 0 = 0", "loop 2 0 ! Index",
                "addLoop = 2", "loops = 3", "loop 2 0 = 0", "loop 3 0 ! Index",
                "addLoop = 3", "loops = 4", "loop 3 0 = 0", "loop 4 0 ! Index",
                "addLoop = 4", "loops = 5", "loop 4 0 = 0", "loop 5 0 ! Index",
                "addLoop ! State", "loops = 5", "loop 5 0 ! Index", "addLoop ! State",
                "undo = 2", "loops = 4", "loop 4 0 ! Index", "addLoop = 4", "addLoop ! State");
    }

    private static void noSuchLoop() {
        Rows rows = new Rows();
        for (int loops = 2; loops <= 5; loops++) {
            for (String none : new String[] {String.valueOf(loops), "-1", "5", MIN, MAX}) {
                addNoSuchLoop(rows, none);
            }
            addLastLoop(rows, loops - 1);
            rows.add(loops < 5 ? "addLoop = " + loops : "addLoop ! State");
        }
        rows.run("the last loop that is there, and the first that is not");
    }

    private static void addNoSuchLoop(Rows rows, String none) {
        rows.add("addSubscriber " + none + " 1 1 ! Index", "loop " + none + " 0 ! Index",
                "rings " + none + " ! Index", "codeCost " + none + " ! Index",
                "bestCodes " + none + " ! Index", "assignCodes " + none + " ! Index",
                "fault " + none + " 1 0 ! Index", "mend " + none + " ! Index",
                "setRisk " + none + " 1 1 ! Index", "test " + none + " 1 ! Index",
                "testCost " + none + " 1 1 ! Index", "bestTest " + none + " 1 1 ! Index",
                "testsNeeded " + none + " ! Index");
    }

    private static void addLastLoop(Rows rows, int last) {
        rows.add("addSubscriber " + last + " 1 1 = " + (last - 1), "loop " + last + " 8 = 1",
                "rings " + last + " = 0", "codeCost " + last + " = 5", "bestCodes " + last + " = 5",
                "assignCodes " + last + " = 0", "fault " + last + " 1 0 = 1", "test " + last + " 1 = 1",
                "testsNeeded " + last + " = 3", "mend " + last + " = 1", "setRisk " + last + " 1 1 = 1",
                "testCost " + last + " 1 1 = 0", "bestTest " + last + " 1 1 = -1");
    }

    private static void twelveSpans() {
        Rows rows = new Rows();
        for (int span = 1; span <= 12; span++) {
            rows.add("setRisk 1 " + span + " " + (1 + span % 9) + " = 1");
        }
        for (int span = 1; span <= 12; span++) {
            rows.add("setRisk 1 " + span + " 1 = " + (1 + span % 9), "setRisk 0 " + span + " 1 = 1",
                    "fault 1 " + span + " 0 = 0", "loop 1 6 = " + span, "mend 1 = " + span);
        }
        rows.add("testCost 1 1 12 = 44", "testCost 1 12 12 = 0").run("12 spans, numbered from 1");
        for (String none : new String[] {"0", "13", "-1", MIN, MAX}) {
            Script.run("no span but 1 to 12", "setRisk 1 " + none + " 1 ! Index",
                    "fault 1 " + none + " 0 ! Index", "fault 1 " + none + " 1 ! Index",
                    "testCost 1 1 " + none + " ! Argument", "testCost 1 " + none + " 12 ! Argument");
        }
    }

    private static void atMostSixteenSubscribers() {
        Rows rows = new Rows().add("subscribers = 0");
        for (int i = 0; i < 16; i++) {
            rows.add("addSubscriber " + i % 2 + " 1 " + (1 + i / 2) + " = " + i,
                    "subscribers = " + (i + 1), "subscriber " + i + " 3 = " + i % 2);
        }
        rows.add("addSubscriber 0 1 14 ! State", "addSubscriber 1 12 13 ! State", "addLoop = 2",
                "addSubscriber 2 1 1 ! State", "subscribers = 16", "undo = 3", "undo = 2",
                "subscribers = 15", "subscriber 15 0 ! Index", "addSubscriber 0 7 14 = 15",
                "subscriber 15 3 = 0", "addSubscriber 0 1 13 ! State")
                .run("at most 16 subscribers, numbered from 0 in the order of adding");
    }

    private static void noSuchSubscriber() {
        Rows rows = new Rows();
        for (int count = 0; count <= 16; count++) {
            addNoSuchSubscriber(rows, String.valueOf(count));
            if (count < 16) {
                rows.add("addSubscriber " + count % 2 + " 1 " + (1 + count / 2) + " = " + count,
                        "subscriber " + count + " 0 = " + (1 + count / 2),
                        "set " + count + " 2 9 = 1", "isCut " + count + " = 0");
            }
        }
        for (String none : new String[] {"-1", "17", MIN, MAX}) {
            addNoSuchSubscriber(rows, none);
        }
        rows.add("lift 15 = 1", "wouldDial 15 15 = 5", "dial 15 14 = 2", "hang 15 = 0")
                .run("the last subscriber that is there, and the first that is not");
    }

    private static void addNoSuchSubscriber(Rows rows, String none) {
        rows.add("set " + none + " 2 9 ! Index", "subscriber " + none + " 0 ! Index",
                "lift " + none + " ! Index", "hang " + none + " ! Index",
                "dial " + none + " 0 ! Index", "wouldDial " + none + " 0 ! Index",
                "isCut " + none + " ! Index");
    }

    private static void positions() {
        Script.run("a position from 1 to 12",
                "addSubscriber 0 1 1 = 0", "addSubscriber 0 12 2 = 1", "subscriber 0 4 = 1",
                "subscriber 1 4 = 12", "addSubscriber 0 0 3 ! Argument",
                "addSubscriber 0 13 3 ! Argument", "addSubscriber 0 -1 3 ! Argument",
                "addSubscriber 0 " + MIN + " 3 ! Argument", "addSubscriber 0 " + MAX + " 3 ! Argument",
                "subscribers = 2");
    }

    private static void severalAtOnePosition() {
        Rows rows = new Rows();
        for (int i = 0; i < 14; i++) {
            rows.add("addSubscriber 0 12 " + (14 - i) + " = " + i, "subscriber " + i + " 4 = 12");
        }
        rows.add("fault 0 12 0 = 14").run("several can have the same position");
    }

    private static void codes() {
        Script.run("a ringing code from 1 to 14",
                "addSubscriber 0 1 1 = 0", "addSubscriber 0 1 14 = 1", "subscriber 0 0 = 1",
                "subscriber 1 0 = 14", "addSubscriber 0 1 0 ! Argument",
                "addSubscriber 0 1 15 ! Argument", "addSubscriber 0 1 -1 ! Argument",
                "addSubscriber 0 1 " + MIN + " ! Argument", "addSubscriber 0 1 " + MAX + " ! Argument",
                "set 0 0 0 ! Argument", "set 0 0 15 ! Argument", "set 0 0 -1 ! Argument",
                "set 0 0 " + MIN + " ! Argument", "set 0 0 " + MAX + " ! Argument",
                "set 0 0 2 = 1", "set 1 0 1 = 14", "set 0 0 14 = 2");
    }

    private static void noOtherHasTheCode() {
        Rows rows = Scene.fullLoop();
        for (int code = 1; code <= 14; code++) {
            rows.add("addSubscriber 0 1 " + code + " ! State",
                    code == 5 ? "set 4 0 5 = 5" : "set 4 0 " + code + " ! State");
        }
        rows.add("addSubscriber 1 1 1 = 14", "addSubscriber 1 1 14 = 15", "set 14 0 13 = 1",
                "set 14 0 14 ! State", "set 15 0 13 ! State", "set 15 0 14 = 14")
                .run("a code which no other subscriber of the loop has");
        Rows five = new Rows().add("addLoop = 2", "addLoop = 3", "addLoop = 4");
        for (int loop = 0; loop < 5; loop++) {
            five.add("addSubscriber " + loop + " 1 7 = " + loop,
                    "addSubscriber " + loop + " 2 7 ! State");
        }
        five.run("the same code in other loops");
        Script.run("a code that was given up is free again",
                "addSubscriber 0 1 1 = 0", "set 0 0 2 = 1", "addSubscriber 0 1 2 ! State",
                "addSubscriber 0 1 1 = 1", "set 0 0 1 ! State", "undo = 2", "set 0 0 1 = 2");
    }

    private static void privacyAndWeight() {
        Script.run("a privacy, on or off",
                "addSubscriber 0 1 1 = 0", "set 0 1 1 = 0", "subscriber 0 1 = 1", "set 0 1 0 = 1",
                "subscriber 0 1 = 0", "set 0 1 -1 ! Argument", "set 0 1 2 ! Argument",
                "set 0 1 " + MIN + " ! Argument", "set 0 1 " + MAX + " ! Argument");
        Script.run("a weight from 0 to 99",
                "addSubscriber 0 1 1 = 0", "set 0 2 0 = 1", "subscriber 0 2 = 0", "set 0 2 99 = 0",
                "subscriber 0 2 = 99", "set 0 2 -1 ! Argument", "set 0 2 100 ! Argument",
                "set 0 2 " + MIN + " ! Argument", "set 0 2 " + MAX + " ! Argument",
                "subscriber 0 2 = 99");
        Script.run("what is 0, 1 or 2",
                "addSubscriber 0 1 1 = 0", "set 0 -1 1 ! Argument", "set 0 3 1 ! Argument",
                "set 0 " + MIN + " 1 ! Argument", "set 0 " + MAX + " 1 ! Argument", "set 0 0 1 = 1",
                "set 0 1 1 = 0", "set 0 2 1 = 1", "subscriber 0 0 = 1", "subscriber 0 1 = 1",
                "subscriber 0 2 = 1");
    }

    private static void asAtFirst() {
        Rows rows = Scene.full();
        for (int i = 0; i < 16; i++) {
            rows.add("subscriber " + i + " 1 = 0", "subscriber " + i + " 2 = 1",
                    "subscriber " + i + " 5 = 0", "subscriber " + i + " 6 = 0",
                    "subscriber " + i + " 7 = 0");
        }
        rows.run("off, 1, and on the hook at first");
    }

    private static void addedLoopIsFree() {
        Scene.inPhase(4).add("tick 9 = 2", "setLimit 10 = 60", "fault 1 3 1 = 3", "addLoop = 2",
                "loop 2 0 = 0", "loop 2 1 = 0", "loop 2 2 = -1", "loop 2 3 = -1", "loop 2 4 = -1",
                "loop 2 5 = 0", "loop 2 6 = -1", "loop 2 7 = 0", "loop 2 8 = 0", "rings 2 = 0",
                "codeCost 2 = 0", "bestCodes 2 = 0", "testCost 2 1 12 = 44", "setRisk 2 1 9 = 1",
                "setRisk 2 12 9 = 1", "tick 1 = 1", "loop 2 1 = 1")
                .run("adds a loop, which is free, whatever the others do");
    }

    private static void addInEachPhase() {
        for (int phase = 0; phase <= 8; phase++) {
            Scene.inPhase(phase).add("tick 2 = " + Scene.IN_USE[phase], "addSubscriber 0 12 13 = 7",
                    "loop 0 0 = " + phase, "loop 0 1 = 2", "subscriber 7 5 = 0", "subscriber 7 6 = 0",
                    "loop 0 8 = 5").run("a subscriber is added in phase " + phase);
        }
        Script.run("a subscriber is added behind a fault", "fault 0 7 0 = 0",
                "addSubscriber 0 6 1 = 0", "addSubscriber 0 7 2 = 1", "isCut 0 = 0", "isCut 1 = 1");
    }

    private static void setInEachPhase() {
        for (int phase = 0; phase <= 8; phase++) {
            boolean isRung = phase == 3 || phase == 7;
            Rows rows = Scene.inPhase(phase).add("tick 2 = " + Scene.IN_USE[phase]);
            for (int i = 0; i < 4; i++) {
                int code = new int[] {1, 2, 4, 14}[i];
                rows.add("set " + i + " 1 1 = 0", "set " + i + " 2 99 = 1", "set " + i + " 1 1 = 1");
                rows.add(isRung ? "set " + i + " 0 13 ! State" : "set " + i + " 0 13 = " + code);
                rows.add(isRung ? "set " + i + " 0 " + code + " ! State"
                        : "set " + i + " 0 " + code + " = 13");
            }
            rows.add("set 0 0 2 ! State", "loop 0 0 = " + phase, "loop 0 1 = 2",
                    phase == 2 ? "set 5 0 13 ! State" : "set 5 0 13 = 3")
                    .run("a code in all phases but 3 and 7, the rest in all; phase " + phase);
        }
    }

    private static void subscriberWhat() {
        Script.run("what of a subscriber is 0 to 7",
                "addSubscriber 1 12 14 = 0", "subscriber 0 -1 ! Argument", "subscriber 0 0 = 14",
                "subscriber 0 7 = 0", "subscriber 0 8 ! Argument", "subscriber 0 " + MIN
                        + " ! Argument", "subscriber 0 " + MAX + " ! Argument");
    }

    private static void standings() {
        Scene.people().add("fault 0 12 0 = 1", "subscriber 3 6 = 0", "lift 3 = 0",
                "subscriber 3 6 = 1", "subscriber 3 5 = 1", "lift 0 = 1", "subscriber 0 6 = 2",
                "dial 0 4 = 2", "lift 4 = 4", "lift 1 = 4", "subscriber 1 6 = 3", "set 0 1 1 = 0",
                "lift 2 = 4", "subscriber 2 6 = 4", "subscriber 2 5 = 1", "hang 2 = 4",
                "subscriber 2 6 = 0", "subscriber 2 5 = 0", "hang 3 = 4", "subscriber 3 6 = 0")
                .run("on the hook, cut off, a party, listening, locked out");
    }

    private static void loopWhat() {
        Script.run("what of a loop is 0 to 8", "loop 1 -1 ! Argument", "loop 1 0 = 0",
                "loop 1 8 = 0", "loop 1 9 ! Argument", "loop 1 " + MIN + " ! Argument",
                "loop 1 " + MAX + " ! Argument");
    }

    private static void loopInEachPhase() {
        int[] second = {-1, -1, -1, -1, -1, -1, 1, 1, 1};
        int[] far = {-1, -1, 1, 1, 1, -1, -1, -1, -1};
        for (int phase = 0; phase <= 8; phase++) {
            Scene.inPhase(phase).add("loop 0 0 = " + phase, "loop 0 2 = " + (phase == 0 ? -1 : 0),
                    "loop 0 3 = " + second[phase], "loop 0 4 = " + far[phase],
                    "loop 0 5 = " + (phase == 4 ? 1 : 0), "loop 0 6 = -1", "loop 0 7 = 0",
                    "loop 1 5 = 0", "loop 1 4 = " + (far[phase] == -1 ? -1 : 0))
                    .run("NONE where there is no such party or end, phase " + phase);
        }
        Script.run("the span of the fault, and a short", "loop 1 6 = -1", "loop 1 7 = 0",
                "fault 1 1 1 = 0", "loop 1 6 = 1", "loop 1 7 = 1", "loop 0 6 = -1", "loop 0 7 = 0",
                "mend 1 = 1", "loop 1 6 = -1", "loop 1 7 = 0", "fault 1 12 0 = 0", "loop 1 6 = 12",
                "loop 1 7 = 0");
    }

    private static void numberOfSubscribersOfALoop() {
        Rows rows = new Rows().add("loop 0 8 = 0", "loop 1 8 = 0");
        for (int i = 0; i < 14; i++) {
            rows.add("addSubscriber 0 1 " + (i + 1) + " = " + i, "loop 0 8 = " + (i + 1));
        }
        rows.add("addSubscriber 1 1 1 = 14", "addSubscriber 1 1 2 = 15", "loop 0 8 = 14",
                "loop 1 8 = 2").run("the number of its subscribers");
    }
}
