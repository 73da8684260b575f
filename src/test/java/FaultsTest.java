/** Promises 22 to 29: faults, mending, risks and tests. */
final class FaultsTest {
    /** Loop 0: subscribers 0 to 3, loop 1: 4 and 5. */
    private static final String[] TWO_LOOPS = {
        "addSubscriber 0 2 1 = 0", "addSubscriber 0 4 2 = 1", "addSubscriber 0 6 4 = 2",
        "addSubscriber 0 8 14 = 3", "addSubscriber 1 3 1 = 4", "addSubscriber 1 5 3 = 5"};

    private FaultsTest() {
    }

    public static void main(String[] args) {
        faultCounts();
        faultRefused();
        faultInAFreeLoop();
        faultWhileSeized();
        faultWhileCalling();
        faultWhileRinging();
        faultWhileTalking();
        faultWithTone();
        lockedOutIsForgottenByAFault();
        faultWithinTheLoop();
        mendFree();
        mendWhileRung();
        mendWhileReverting();
        mendWhileInUse();
        mendRefused();
        isCut();
        setRisk();
        test();
        testCostAndBestTest();
        testsAgainstAllOrders();
        testsRefused();
        testsNeeded();
        Script.end();
    }

    private static void run(String title, String... rows) {
        Script.run(title, Script.join(TWO_LOOPS, rows));
    }

    private static void faultCounts() {
        run("promise 22, opens and shorts",
                "fault 0 4 0 = 3", "loop 0 6 = 4", "loop 0 7 = 0", "mend 0 = 4", "fault 0 5 0 = 2",
                "mend 0 = 5", "fault 0 9 0 = 0", "mend 0 = 9", "fault 0 1 0 = 4", "mend 0 = 1",
                "fault 0 12 1 = 4", "loop 0 7 = 1", "loop 0 6 = 12", "fault 1 5 0 = 1");
    }

    private static void faultRefused() {
        run("promise 22, wrong inputs",
                "fault 2 1 0 ! Index", "fault -1 1 0 ! Index", "fault 0 0 0 ! Index",
                "fault 0 13 1 ! Index", "fault 0 -2147483648 1 ! Index", "fault 2147483647 1 1 ! Index",
                "fault 0 3 1 = 4", "fault 0 3 1 ! State", "fault 0 4 0 ! State",
                "fault 0 13 0 ! Index", "fault 0 0 0 ! Index", "fault 1 3 0 = 2");
    }

    private static void faultInAFreeLoop() {
        run("promise 22, phase 0: the loop is left, so its timer begins again",
                "tick 9 = 0", "fault 0 4 0 = 3", "loop 0 1 = 0", "loop 1 1 = 9", "loop 0 0 = 0");
    }

    private static void faultWhileSeized() {
        run("promise 22, phase 1",
                "lift 2 = 1", "lift 1 = 1", "lift 0 = 1", "tick 2 = 1", "fault 0 6 0 = 2",
                "loop 0 0 = 5", "loop 0 2 = 0", "loop 0 1 = 0", "subscriber 2 6 = 1",
                "subscriber 1 6 = 3", "hang 0 = 5", "loop 0 2 = 1", "hang 1 = 0", "hang 2 = 0");
        run("promise 22, phase 1, beyond all who are off the hook",
                "lift 2 = 1", "lift 1 = 1", "fault 0 7 0 = 1", "loop 0 0 = 5", "loop 0 2 = 1",
                "subscriber 2 6 = 3");
    }

    private static void faultWhileCalling() {
        run("promise 22, phase 2",
                "lift 1 = 1", "dial 1 4 = 2", "tick 2 = 2", "fault 0 3 0 = 3", "loop 0 0 = 0",
                "loop 1 0 = 0", "loop 1 1 = 0", "loop 1 4 = -1", "subscriber 1 6 = 1",
                "told 2 = 0");
        run("promise 22, phase 2, the caller is not cut off",
                "lift 1 = 1", "dial 1 4 = 2", "fault 0 9 0 = 0", "loop 0 0 = 5", "loop 0 2 = 1",
                "loop 1 0 = 0", "loop 0 4 = -1");
    }

    private static void faultWhileRinging() {
        run("promise 22, phase 3",
                "lift 1 = 1", "dial 1 4 = 2", "tick 2 = 2", "fault 1 12 0 = 0", "loop 1 0 = 0",
                "loop 1 2 = -1", "loop 0 0 = 5", "loop 0 2 = 1", "loop 0 1 = 0", "loop 0 4 = -1",
                "told 2 = 0");
    }

    private static void faultWhileTalking() {
        run("promise 22, phase 4, at the caller's end",
                "lift 1 = 1", "dial 1 4 = 2", "lift 4 = 4", "lift 0 = 4", "set 1 1 1 = 0",
                "lift 2 = 4", "set 4 1 1 = 0", "lift 5 = 4", "fault 0 3 0 = 3", "loop 0 0 = 5",
                "loop 0 2 = 0", "loop 0 5 = 0", "subscriber 1 6 = 1", "subscriber 2 6 = 1",
                "loop 1 0 = 5", "loop 1 2 = 4", "subscriber 5 6 = 4", "mend 0 = 3",
                "subscriber 1 6 = 3", "subscriber 2 6 = 3");
        run("promise 22, phase 4, at the other end",
                "lift 1 = 1", "dial 1 4 = 2", "lift 4 = 4", "fault 1 1 1 = 2", "loop 1 0 = 0",
                "loop 0 0 = 5", "loop 0 2 = 1", "subscriber 4 6 = 1");
    }

    private static void faultWithTone() {
        run("promise 22, phase 5: who is locked out listens",
                "lift 1 = 1", "dial 1 4 = 2", "lift 4 = 4", "set 4 1 1 = 0", "lift 5 = 4",
                "hang 1 = 0", "loop 1 0 = 5", "subscriber 5 6 = 4", "fault 1 12 0 = 0",
                "loop 1 2 = 4", "subscriber 5 6 = 3");
        run("promise 22, who was locked out is so no more when it comes back",
                "lift 1 = 1", "dial 1 4 = 2", "lift 4 = 4", "set 1 1 1 = 0", "lift 0 = 4",
                "subscriber 0 6 = 4", "fault 0 2 0 = 4", "loop 0 0 = 0", "loop 1 0 = 5",
                "mend 0 = 2", "loop 0 2 = 0", "subscriber 0 6 = 2", "subscriber 1 6 = 3");
    }

    private static void lockedOutIsForgottenByAFault() {
        Script.run("promises 12 and 22, one that was locked out and is cut off ends no call",
                "addSubscriber 0 9 1 = 0", "addSubscriber 0 1 2 = 1", "addSubscriber 1 1 1 = 2",
                "setLimit 10 = 60", "lift 1 = 1", "dial 1 2 = 2", "lift 2 = 4", "set 1 1 1 = 0",
                "lift 0 = 4", "subscriber 0 6 = 4", "fault 0 5 0 = 1", "subscriber 0 6 = 1",
                "hang 1 = 0", "hang 2 = 0", "lift 1 = 1", "dial 1 2 = 2", "lift 2 = 4",
                "tick 30 = 2", "loop 0 0 = 4", "mend 0 = 5", "subscriber 0 6 = 3", "tick 1 = 2",
                "loop 0 0 = 4");
    }

    private static void faultWithinTheLoop() {
        run("promise 22, phase 6",
                "lift 1 = 1", "dial 1 2 = 6", "fault 0 5 0 = 2", "loop 0 0 = 5", "loop 0 2 = 1",
                "loop 0 3 = -1");
        run("promise 22, phase 7",
                "lift 1 = 1", "dial 1 2 = 6", "hang 1 = 7", "tick 3 = 1", "fault 0 12 0 = 0",
                "loop 0 0 = 0", "loop 0 1 = 0", "loop 0 2 = -1", "loop 0 3 = -1", "told 2 = 0");
        run("promise 22, phase 8",
                "lift 1 = 1", "dial 1 2 = 6", "hang 1 = 7", "lift 2 = 8", "lift 3 = 8",
                "lift 1 = 8", "fault 0 3 1 = 4", "loop 0 0 = 0", "subscriber 1 6 = 1", "mend 0 = 3",
                "loop 0 0 = 5", "loop 0 2 = 1", "subscriber 2 6 = 3", "subscriber 3 6 = 3");
    }

    private static void mendFree() {
        run("promise 23, phase 0",
                "fault 0 6 0 = 2", "lift 3 = 0", "lift 2 = 0", "tick 4 = 0", "mend 0 = 6",
                "loop 0 0 = 5", "loop 0 2 = 2", "subscriber 3 6 = 3", "loop 0 1 = 0",
                "loop 0 6 = -1", "told 4 = 0");
        run("promise 23, nobody of those is off the hook",
                "fault 0 6 1 = 4", "tick 4 = 0", "mend 0 = 6", "loop 0 0 = 0", "loop 0 1 = 4",
                "loop 0 7 = 0");
    }

    private static void mendWhileRung() {
        run("promise 23, phase 3",
                "fault 0 6 0 = 2", "lift 3 = 0", "lift 4 = 1", "dial 4 0 = 2", "tick 2 = 2",
                "mend 0 = 6", "loop 0 0 = 5", "loop 0 2 = 3", "loop 0 4 = -1", "loop 1 0 = 5",
                "loop 1 2 = 4", "loop 1 4 = -1", "told 2 = 0", "told 0 = 0");
        run("promise 23, phase 3, nobody of those is off the hook",
                "fault 0 6 0 = 2", "lift 4 = 1", "dial 4 0 = 2", "tick 2 = 2", "mend 0 = 6",
                "loop 0 0 = 3", "loop 0 1 = 2", "loop 1 0 = 2");
    }

    private static void mendWhileReverting() {
        run("promise 23, phase 7",
                "fault 0 6 0 = 2", "lift 3 = 0", "lift 0 = 1", "dial 0 1 = 6", "hang 0 = 7",
                "mend 0 = 6", "loop 0 0 = 5", "loop 0 2 = 3", "loop 0 3 = -1");
        run("promise 23, phase 7, nobody of those is off the hook",
                "fault 0 6 0 = 2", "lift 0 = 1", "dial 0 1 = 6", "hang 0 = 7", "tick 3 = 1",
                "mend 0 = 6", "loop 0 0 = 7", "loop 0 1 = 3");
    }

    private static void mendWhileInUse() {
        run("promise 23, phases 1 and 2",
                "fault 0 6 0 = 2", "lift 3 = 0", "lift 1 = 1", "tick 3 = 1", "mend 0 = 6",
                "loop 0 0 = 1", "loop 0 1 = 3", "loop 0 2 = 1", "subscriber 3 6 = 3");
        run("promise 23, phase 4, whatever the privacy is",
                "set 1 1 1 = 0", "fault 0 6 0 = 2", "lift 3 = 0", "lift 1 = 1", "dial 1 4 = 2",
                "lift 4 = 4", "tick 3 = 2", "mend 0 = 6", "loop 0 0 = 4", "loop 0 1 = 3",
                "subscriber 3 6 = 3", "told 4 = 0", "told 5 = 0", "lift 2 = 4",
                "subscriber 2 6 = 4");
        run("promise 23, phase 6",
                "fault 0 6 0 = 2", "lift 3 = 0", "lift 1 = 1", "dial 1 0 = 6", "mend 0 = 6",
                "loop 0 0 = 6", "subscriber 3 6 = 3", "hang 1 = 5", "loop 0 2 = 3");
        run("promise 23, phase 8",
                "set 0 1 1 = 0", "fault 0 6 0 = 2", "lift 3 = 0", "lift 1 = 1", "dial 1 0 = 6",
                "hang 1 = 7", "lift 0 = 8", "mend 0 = 6", "loop 0 0 = 8", "subscriber 3 6 = 3");
    }

    private static void mendRefused() {
        run("promise 23, wrong inputs",
                "mend 0 ! State", "mend 2 ! Index", "mend -1 ! Index", "mend 2147483647 ! Index",
                "fault 0 6 0 = 2", "mend 1 ! State", "mend 0 = 6", "mend 0 ! State");
    }

    private static void isCut() {
        run("promise 24",
                "isCut 0 = 0", "fault 0 4 0 = 3", "isCut 0 = 0", "isCut 1 = 1", "isCut 2 = 1",
                "isCut 4 = 0", "lift 1 = 0", "isCut 1 = 1", "addSubscriber 0 3 6 = 6", "isCut 6 = 0",
                "addSubscriber 0 4 7 = 7", "isCut 7 = 1", "mend 0 = 4", "isCut 1 = 0",
                "fault 0 12 1 = 6", "isCut 0 = 1", "isCut 8 ! Index", "isCut -1 ! Index",
                "isCut 2147483647 ! Index");
    }

    private static void setRisk() {
        run("promise 25",
                "setRisk 0 1 9 = 1", "setRisk 0 1 3 = 9", "setRisk 0 12 2 = 1", "setRisk 1 1 4 = 1",
                "setRisk 0 12 1 = 2", "setRisk 2 1 1 ! Index", "setRisk -1 1 1 ! Index",
                "setRisk 0 0 1 ! Index", "setRisk 0 13 1 ! Index", "setRisk 0 13 0 ! Index",
                "setRisk 0 1 0 ! Argument", "setRisk 0 1 10 ! Argument",
                "setRisk 0 1 -2147483648 ! Argument", "setRisk 0 2147483647 1 ! Index",
                "undo = 3", "setRisk 0 12 5 = 2");
    }

    private static void test() {
        run("promise 26",
                "fault 0 6 0 = 2", "test 0 5 = 0", "test 0 6 = 1", "test 0 11 = 1", "test 0 1 = 0",
                "test 0 12 ! Argument", "test 0 0 ! Argument", "test 0 2147483647 ! Argument",
                "test 1 3 ! State", "test 1 12 ! Argument", "test 2 3 ! Index", "test 2 0 ! Index",
                "test -1 3 ! Index", "mend 0 = 6", "test 0 6 ! State", "fault 0 12 1 = 4",
                "test 0 11 = 0", "mend 0 = 12", "fault 0 1 0 = 4", "test 0 1 = 1");
    }

    private static void testCostAndBestTest() {
        run("promises 27 and 28",
                "testCost 0 5 5 = 0", "bestTest 0 5 5 = -1", "testCost 0 5 6 = 2",
                "bestTest 0 5 6 = 5", "testCost 0 5 7 = 5", "bestTest 0 5 7 = 5",
                "testCost 0 1 12 = 44", "bestTest 0 1 12 = 4", "setRisk 0 7 9 = 1",
                "testCost 0 5 7 = 13", "bestTest 0 5 7 = 6", "testCost 1 5 7 = 5",
                "testCost 0 7 7 = 0", "testCost 0 12 12 = 0", "bestTest 0 11 12 = 11",
                "undo = 3", "testCost 0 5 7 = 5");
    }

    /** Against a plain search without tables, over risks of many kinds. */
    private static void testsAgainstAllOrders() {
        for (int kind = 0; kind < 12; kind++) {
            Party party = new Real();
            int[] risks = new int[13];
            for (int span = 1; span <= 12; span++) {
                risks[span] = 1 + (span * (kind + 3) + kind * span * span) % 9;
                party.call("setRisk", 1, span, risks[span]);
            }
            for (int from = 1; from <= 12; from++) {
                for (int to = from; to <= Math.min(12, from + 8); to++) {
                    String title = "promises 27 and 28, kind " + kind + " " + from + " " + to;
                    Script.due(title, cost(risks, from, to), party.call("testCost", 1, from, to));
                    Script.due(title, best(risks, from, to), party.call("bestTest", 1, from, to));
                }
            }
        }
    }

    private static int cost(int[] risks, int from, int to) {
        int k = best(risks, from, to);
        if (k == -1) {
            return 0;
        }
        int sum = 0;
        for (int span = from; span <= to; span++) {
            sum += risks[span];
        }
        return sum + cost(risks, from, k) + cost(risks, k + 1, to);
    }

    private static int best(int[] risks, int from, int to) {
        int best = -1;
        int least = Integer.MAX_VALUE;
        for (int k = from; k < to; k++) {
            int sum = costOf(risks, from, k) + costOf(risks, k + 1, to);
            if (sum < least) {
                least = sum;
                best = k;
            }
        }
        return best;
    }

    private static int costOf(int[] risks, int from, int to) {
        if (from == to) {
            return 0;
        }
        int least = Integer.MAX_VALUE;
        int sum = risks[to];
        for (int k = from; k < to; k++) {
            sum += risks[k];
            least = Math.min(least, costOf(risks, from, k) + costOf(risks, k + 1, to));
        }
        return sum + least;
    }

    private static void testsRefused() {
        for (String name : new String[] {"testCost", "bestTest"}) {
            run("promises 27 and 28, wrong inputs",
                    name + " 2 1 1 ! Index", name + " -1 1 1 ! Index", name + " 2 0 0 ! Index",
                    name + " 0 0 1 ! Argument", name + " 0 1 13 ! Argument",
                    name + " 0 3 2 ! Argument", name + " 0 13 13 ! Argument",
                    name + " 0 0 0 ! Argument", name + " 0 -2147483648 2147483647 ! Argument",
                    name + " 0 2147483647 -2147483648 ! Argument",
                    name + " 2147483647 1 1 ! Index");
        }
    }

    private static void testsNeeded() {
        run("promise 29",
                "testsNeeded 0 ! State", "testsNeeded 2 ! Index", "testsNeeded -1 ! Index",
                "fault 0 1 0 = 4", "testsNeeded 0 = 3", "testsNeeded 1 ! State", "mend 0 = 1",
                "fault 0 4 1 = 4", "testsNeeded 0 = 3", "mend 0 = 4", "fault 0 5 0 = 2",
                "testsNeeded 0 = 4", "setRisk 0 5 9 = 1", "testsNeeded 0 = 2");
        for (int span = 1; span <= 12; span++) {
            Party party = new Real();
            for (int i = 1; i <= 12; i++) {
                party.call("setRisk", 0, i, 1 + i * 5 % 9);
            }
            party.call("fault", 0, span, 0);
            Script.due("promise 29, span " + span, countTests(party),
                    party.call("testsNeeded", 0));
        }
    }

    /** Makes the tests one by one, as a person would. */
    private static long countTests(Party party) {
        int from = 1;
        int to = 12;
        int tests = 0;
        while (from < to) {
            int k = (int) party.call("bestTest", 0, from, to);
            if (party.call("test", 0, k) == 1) {
                to = k;
            } else {
                from = k + 1;
            }
            tests++;
        }
        return tests;
    }
}
