/** The edges of FAULTS, of what a fault and its mending do, of TESTS and of the promises 22 to 29. */
final class FaultsEdgesTest {
    private static final String MIN = Scene.MIN;
    private static final String MAX = Scene.MAX;

    private FaultsEdgesTest() {
    }

    public static void main(String[] args) {
        cutOffByAnOpen();
        cutOffByAShort();
        nobodyAndFourteenCutOff();
        aFaultInEachLoop();
        noSecondFault();
        openInEachPhase();
        shortInEachPhase();
        openBetweenTheOnesThatAreOff();
        faultAtTheOtherEnd();
        firstAndLastNumberLockedOut();
        mendInEachPhase();
        mendWithNobodyInEachPhase();
        mendAFreeLoop();
        mendRefused();
        risks();
        testAtEachSpan();
        testRefused();
        spansThatAreLeft();
        costOfOneSpanAndOfAll();
        lowestOfTheBest();
        fewestAndMostTests();
        testsNeededRefused();
        Script.end();
    }

    /** One at each position, so number i is at position i + 1. */
    private static Rows oneAtEachPosition() {
        Rows rows = new Rows();
        for (int i = 0; i < 12; i++) {
            rows.add("addSubscriber 0 " + (i + 1) + " " + (i + 1) + " = " + i);
        }
        return rows.add("addSubscriber 1 12 1 = 12");
    }

    private static void cutOffByAnOpen() {
        for (int span = 1; span <= 12; span++) {
            Rows rows = oneAtEachPosition().add("fault 0 " + span + " 0 = " + (13 - span),
                    "loop 0 6 = " + span, "loop 0 7 = 0");
            for (int i = 0; i < 12; i++) {
                rows.add("isCut " + i + " = " + (i + 1 >= span ? 1 : 0));
            }
            rows.add("isCut 12 = 0", "mend 0 = " + span, "isCut 0 = 0", "isCut 11 = 0")
                    .run("an open cuts off positions of " + span + " or more");
        }
    }

    private static void cutOffByAShort() {
        for (int span = 1; span <= 12; span++) {
            Rows rows = oneAtEachPosition().add("fault 0 " + span + " 1 = 12",
                    "loop 0 6 = " + span, "loop 0 7 = 1");
            for (int i = 0; i < 12; i++) {
                rows.add("isCut " + i + " = 1");
            }
            rows.add("isCut 12 = 0", "mend 0 = " + span, "isCut 0 = 0", "isCut 11 = 0")
                    .run("a short at " + span + " cuts off all subscribers of the loop");
        }
    }

    private static void nobodyAndFourteenCutOff() {
        Script.run("a loop without subscribers", "fault 0 1 1 = 0", "fault 1 1 0 = 0", "mend 0 = 1",
                "mend 1 = 1", "tick 1 = 0");
        Scene.fullLoop().add("fault 0 1 0 = 14", "mend 0 = 1", "fault 0 12 1 = 14", "mend 0 = 12",
                "fault 0 12 0 = 1", "isCut 11 = 1", "isCut 12 = 0").run("a loop with fourteen");
    }

    private static void aFaultInEachLoop() {
        Rows rows = Scene.full();
        for (int loop = 0; loop < 5; loop++) {
            rows.add("fault " + loop + " 1 1 = " + (loop == 0 ? 4 : 3));
        }
        for (int loop = 0; loop < 5; loop++) {
            rows.add("fault " + loop + " 1 1 ! State", "mend " + loop + " = 1",
                    "mend " + loop + " ! State");
        }
        rows.run("a fault in each of five loops");
    }

    private static void noSecondFault() {
        Script.run("if the loop has a fault", "fault 0 12 0 = 0", "fault 0 12 0 ! State",
                "fault 0 1 1 ! State", "fault 0 0 1 ! Index", "fault 0 13 1 ! Index",
                "fault 2 12 0 ! Index", "fault -1 12 0 ! Index", "fault 1 12 0 = 0", "loop 0 6 = 12",
                "loop 0 7 = 0", "mend 0 = 12", "fault 0 1 1 = 0", "loop 0 6 = 1", "loop 0 7 = 1");
    }

    /** Subscriber 3 alone is behind the fault, on the hook; all others can go on. */
    private static void openInEachPhase() {
        int[] after = {0, 5, 5, 0, 5, 5, 5, 0, 5};
        int[] first = {-1, 0, 0, -1, 0, 0, 0, -1, 1};
        int[] far = {0, 0, 0, 5, 5, 0, 0, 0, 0};
        for (int phase = 0; phase <= 8; phase++) {
            boolean hasFar = phase >= 2 && phase <= 4;
            Scene.inPhase(phase).add("tick 2 = " + Scene.IN_USE[phase], "fault 0 12 0 = 1",
                    "loop 0 0 = " + after[phase], "loop 0 1 = 0", "loop 0 2 = " + first[phase],
                    "loop 0 3 = -1", "loop 0 4 = -1", "loop 0 5 = 0", "loop 1 0 = " + far[phase],
                    "loop 1 1 = " + (hasFar ? 0 : 2), "loop 1 4 = -1",
                    "loop 1 2 = " + (far[phase] == 5 ? 4 : -1), "told 2 = 0",
                    "told 3 = " + (phase == 5 ? 1 : 0)).run("an open in phase " + phase);
        }
    }

    private static void shortInEachPhase() {
        int[] far = {0, 0, 0, 5, 5, 0, 0, 0, 0};
        int[] mended = {0, 5, 5, 0, 5, 5, 5, 0, 5};
        for (int phase = 0; phase <= 8; phase++) {
            int off = phase == 8 ? 1 : 0;
            Scene.inPhase(phase).add("tick 2 = " + Scene.IN_USE[phase], "fault 0 12 1 = 4",
                    "loop 0 0 = 0", "loop 0 1 = 0", "loop 0 2 = -1", "loop 0 3 = -1",
                    "loop 0 4 = -1", "loop 1 0 = " + far[phase],
                    "subscriber " + off + " 6 = " + (mended[phase] == 5 ? 1 : 0),
                    "mend 0 = 12", "loop 0 0 = " + mended[phase],
                    "loop 0 2 = " + (mended[phase] == 5 ? off : -1), "loop 1 0 = " + far[phase])
                    .run("a short in phase " + phase);
        }
    }

    private static void openBetweenTheOnesThatAreOff() {
        String[] begin = {"lift 2 = 1", "lift 3 = 1", "lift 1 = 1", "lift 0 = 1"};
        int[] positions = {2, 4, 6, 12};
        for (int span = 1; span <= 12; span++) {
            Rows rows = Scene.people().add(begin);
            int left = 0;
            for (int position : positions) {
                left += position < span ? 1 : 0;
            }
            rows.add("fault 0 " + span + " 0 = " + (4 - left), "loop 0 0 = " + (left > 0 ? 5 : 0),
                    "loop 0 2 = " + (left > 0 ? 0 : -1));
            for (int i = 0; i < 4; i++) {
                rows.add("subscriber " + i + " 6 = " + (i >= left ? 1 : i == 0 ? 2 : 3));
            }
            rows.run("all are off the hook, an open at span " + span);
        }
    }

    private static void faultAtTheOtherEnd() {
        Scene.inPhase(4).add("lift 1 = 4", "fault 1 12 0 = 0", "loop 1 0 = 5", "loop 1 2 = 4",
                "loop 0 0 = 5", "loop 0 2 = 0", "subscriber 1 6 = 3", "subscriber 4 6 = 2")
                .run("in phase 4 at the other end, behind all subscribers");
        Scene.inPhase(4).add("fault 1 3 0 = 3", "loop 1 0 = 0", "subscriber 4 6 = 1", "loop 0 0 = 5")
                .run("in phase 4 at the other end, at the party's position");
        Scene.inPhase(4).add("fault 1 4 0 = 2", "loop 1 0 = 5", "loop 1 2 = 4", "loop 0 0 = 5")
                .run("in phase 4 at the other end, one span behind the party");
        Scene.inPhase(4).add("set 4 1 1 = 0", "lift 5 = 4", "subscriber 5 6 = 4", "fault 1 4 0 = 2",
                "subscriber 5 6 = 1", "mend 1 = 4", "subscriber 5 6 = 3", "loop 1 2 = 4")
                .run("who was locked out is cut off, and listens when it is mended");
    }

    private static void firstAndLastNumberLockedOut() {
        Rows rows = new Rows().add("addSubscriber 0 12 1 = 0", "addSubscriber 0 1 2 = 1");
        for (int i = 2; i < 15; i++) {
            rows.add("addSubscriber 1 1 " + (i - 1) + " = " + i);
        }
        rows.add("addSubscriber 0 12 14 = 15", "set 1 1 1 = 0", "lift 1 = 1", "dial 1 14 = 2",
                "lift 14 = 4", "lift 0 = 4", "lift 15 = 4", "subscriber 0 6 = 4",
                "subscriber 15 6 = 4", "fault 0 12 0 = 2", "loop 0 0 = 5", "loop 0 2 = 1",
                "subscriber 0 6 = 1", "subscriber 15 6 = 1", "mend 0 = 12", "loop 0 2 = 1",
                "subscriber 0 6 = 3", "subscriber 15 6 = 3", "hang 1 = 5", "loop 0 2 = 0",
                "subscriber 15 6 = 3", "hang 0 = 5", "loop 0 2 = 15", "hang 15 = 0")
                .run("locked out until the loop is left, the first and the last number");
    }

    /** Subscriber 3 is off the hook and cut off; privacy is on, and counts for nothing. */
    private static void mendInEachPhase() {
        int[] after = {5, 1, 2, 5, 4, 5, 6, 5, 8};
        int[] far = {0, 0, 3, 5, 4, 0, 0, 0, 0};
        for (int phase = 0; phase <= 8; phase++) {
            boolean isLeft = phase == 0 || phase == 3 || phase == 7;
            Scene.people().add("set 0 1 1 = 0", "set 1 1 1 = 0", "set 4 1 1 = 0", "fault 0 12 0 = 1",
                    "lift 3 = 0").add(Scene.toPhase(phase)).add("tick 2 = " + Scene.IN_USE[phase],
                    "mend 0 = 12", "loop 0 0 = " + after[phase], "loop 0 1 = " + (isLeft ? 0 : 2),
                    "loop 0 2 = " + (isLeft ? 3 : 0), "subscriber 3 6 = " + (isLeft ? 2 : 3),
                    "loop 1 0 = " + far[phase], "loop 1 1 = " + (phase == 3 ? 0 : 2),
                    "loop 0 6 = -1", "told 2 = 0", "told 4 = 0", "told 5 = 0",
                    "hang 3 = " + (isLeft ? 0 : after[phase])).run("mended in phase " + phase);
        }
    }

    private static void mendWithNobodyInEachPhase() {
        int[] far = {0, 0, 3, 2, 4, 0, 0, 0, 0};
        for (int phase = 0; phase <= 8; phase++) {
            Scene.people().add("fault 0 12 0 = 1", "lift 3 = 0", "hang 3 = 0")
                    .add(Scene.toPhase(phase)).add("tick 2 = " + Scene.IN_USE[phase], "mend 0 = 12",
                    "loop 0 0 = " + phase, "loop 0 1 = 2", "loop 0 2 = " + (phase == 0 ? -1 : 0),
                    "loop 1 0 = " + far[phase], "loop 1 1 = 2", "loop 0 6 = -1")
                    .run("mended, and nobody of those is off the hook, in phase " + phase);
        }
    }

    private static void mendAFreeLoop() {
        Scene.people().add("fault 0 1 1 = 4", "lift 3 = 0", "lift 1 = 0", "lift 2 = 0", "tick 5 = 0",
                "mend 0 = 1", "loop 0 0 = 5", "loop 0 1 = 0", "loop 0 2 = 1", "subscriber 1 6 = 2",
                "subscriber 2 6 = 3", "subscriber 3 6 = 3", "told 4 = 0").run("the lowest of those");
        Scene.people().add("fault 1 1 1 = 3", "fault 0 1 1 = 4", "lift 0 = 0", "lift 4 = 0",
                "mend 1 = 1", "loop 1 0 = 5", "loop 0 0 = 0", "subscriber 0 6 = 1", "loop 0 6 = 1")
                .run("the fault of the other loop stays");
    }

    private static void mendRefused() {
        Script.run("if the loop has no fault", "mend 0 ! State", "mend 1 ! State", "mend 2 ! Index",
                "mend -1 ! Index", "mend " + MIN + " ! Index", "mend " + MAX + " ! Index",
                "fault 0 1 0 = 0", "mend 1 ! State", "mend 0 = 1", "mend 0 ! State", "undo = 1",
                "mend 0 = 1");
    }

    private static void risks() {
        Rows rows = new Rows();
        for (int span = 1; span <= 12; span++) {
            rows.add("setRisk 0 " + span + " 9 = 1", "setRisk 0 " + span + " 1 = 9",
                    "setRisk 0 " + span + " 0 ! Argument", "setRisk 0 " + span + " 10 ! Argument",
                    "setRisk 0 " + span + " -1 ! Argument", "setRisk 0 " + span + " " + MIN
                    + " ! Argument", "setRisk 0 " + span + " " + MAX + " ! Argument");
        }
        rows.run("a risk from 1 to 9 (at first 1)");
        Script.run("no such loop or span comes before the risk", "setRisk 0 0 0 ! Index",
                "setRisk 0 13 10 ! Index", "setRisk 2 1 0 ! Index", "setRisk -1 12 10 ! Index",
                "setRisk 2 0 0 ! Index", "setRisk 0 1 0 ! Argument", "setRisk 1 12 10 ! Argument");
    }

    private static void testAtEachSpan() {
        for (int fault = 1; fault <= 12; fault++) {
            Rows rows = new Rows().add("fault 1 " + fault + " " + fault % 2 + " = 0");
            for (int span = 1; span <= 11; span++) {
                rows.add("test 1 " + span + " = " + (fault <= span ? 1 : 0));
            }
            rows.add("test 1 0 ! Argument", "test 1 12 ! Argument", "loop 1 6 = " + fault)
                    .run("a test from 1 to 11, the fault at " + fault);
        }
    }

    private static void testRefused() {
        Script.run("a test that is refused", "test 0 1 ! State", "test 0 11 ! State",
                "test 0 0 ! Argument", "test 0 12 ! Argument", "test 0 " + MIN + " ! Argument",
                "test 0 " + MAX + " ! Argument", "test 2 1 ! Index", "test 2 0 ! Index",
                "test -1 12 ! Index", "fault 0 1 0 = 0", "test 0 0 ! Argument", "test 1 1 ! State",
                "test 2 12 ! Index", "mend 0 = 1", "test 0 1 ! State");
    }

    private static void spansThatAreLeft() {
        for (String name : new String[] {"testCost", "bestTest"}) {
            Rows rows = new Rows();
            for (int from = -1; from <= 14; from++) {
                for (int to = -1; to <= 14; to++) {
                    if (from < 1 || from > to || to > 12) {
                        rows.add(name + " 1 " + from + " " + to + " ! Argument");
                    }
                    rows.add(name + " 2 " + from + " " + to + " ! Index");
                }
            }
            rows.add(name + " 1 " + MIN + " 12 ! Argument", name + " 1 1 " + MAX + " ! Argument",
                    name + " 1 " + MAX + " " + MAX + " ! Argument",
                    name + " 1 " + MIN + " " + MIN + " ! Argument",
                    name + " 1 " + MAX + " " + MIN + " ! Argument", name + " -1 1 1 ! Index",
                    name + " " + MAX + " 0 0 ! Index").run(name + ": 1 <= from <= to <= 12");
        }
    }

    private static void costOfOneSpanAndOfAll() {
        Rows rows = new Rows();
        for (int span = 1; span <= 12; span++) {
            rows.add("testCost 0 " + span + " " + span + " = 0",
                    "bestTest 0 " + span + " " + span + " = -1");
        }
        for (int span = 1; span <= 11; span++) {
            rows.add("testCost 0 " + span + " " + (span + 1) + " = 2",
                    "bestTest 0 " + span + " " + (span + 1) + " = " + span);
        }
        rows.add("testCost 0 1 12 = 44", "bestTest 0 1 12 = 4");
        for (int span = 1; span <= 12; span++) {
            rows.add("setRisk 0 " + span + " 9 = 1");
        }
        rows.add("testCost 0 1 12 = 396", "bestTest 0 1 12 = 4", "testCost 0 12 12 = 0",
                "testCost 0 11 12 = 18", "testCost 1 1 12 = 44").run("0 if a = b; all risks 1 or 9");
    }

    private static void lowestOfTheBest() {
        Script.run("the best test is the lowest k with this sum", "bestTest 0 1 3 = 1",
                "testCost 0 1 3 = 5", "bestTest 0 10 12 = 10", "setRisk 0 3 2 = 1",
                "bestTest 0 1 3 = 2", "testCost 0 1 3 = 6", "setRisk 0 1 2 = 1",
                "bestTest 0 1 3 = 1", "testCost 0 1 3 = 8", "setRisk 0 12 9 = 1",
                "bestTest 0 10 12 = 11", "testCost 0 10 12 = 13", "setRisk 0 10 9 = 1",
                "bestTest 0 10 12 = 10", "testCost 0 10 12 = 29");
    }

    private static void fewestAndMostTests() {
        Script.run("one test, at the first span", "setRisk 0 1 9 = 1", "fault 0 1 0 = 0",
                "bestTest 0 1 12 = 1", "testCost 0 1 12 = 59", "testsNeeded 0 = 1", "mend 0 = 1",
                "fault 0 2 0 = 0", "testsNeeded 0 = 4", "mend 0 = 2", "fault 0 12 1 = 0",
                "testsNeeded 0 = 5");
        int[] risks = {1, 9, 3, 1, 1, 1, 3, 9, 1, 9, 9, 1};
        Rows rows = new Rows();
        for (int span = 1; span <= 12; span++) {
            rows.add("setRisk 1 " + span + " " + risks[span - 1] + " = 1");
        }
        rows.add("fault 1 5 0 = 0", "testsNeeded 1 = 7").run("seven tests");
        int[] plain = {3, 3, 3, 3, 4, 4, 4, 4, 4, 4, 4, 4};
        for (int span = 1; span <= 12; span++) {
            Script.run("all risks are 1, the fault at " + span, "fault 0 " + span + " 0 = 0",
                    "testsNeeded 0 = " + plain[span - 1]);
        }
    }

    private static void testsNeededRefused() {
        Script.run("tests without a fault", "testsNeeded 0 ! State", "testsNeeded 1 ! State",
                "testsNeeded 2 ! Index", "testsNeeded -1 ! Index", "testsNeeded " + MIN + " ! Index",
                "testsNeeded " + MAX + " ! Index", "fault 1 12 1 = 0", "testsNeeded 0 ! State",
                "testsNeeded 1 = 4", "mend 1 = 12", "testsNeeded 1 ! State");
    }
}
