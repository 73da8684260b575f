/** Promises 17 to 21: codes, their cost and the best ones. */
final class CodesTest {
    private static final int[] LENGTHS = {5, 7, 7, 9, 9, 11, 9, 11, 11, 13, 11, 13, 13, 15};
    private static final String[] RINGS =
        {"0", "1", "00", "01", "10", "11", "000", "001", "010", "011", "100", "101", "110", "111"};

    private CodesTest() {
    }

    public static void main(String[] args) {
        codeLength();
        codeRing();
        codeCost();
        bestCodes();
        bestCodesAgainstAllChoices();
        assignCodes();
        assignCodesToFourteen();
        assignCodesRefused();
        Script.end();
    }

    private static void codeLength() {
        for (int code = 1; code <= 14; code++) {
            Script.run("promise 17", "codeLength " + code + " = " + LENGTHS[code - 1]);
        }
        Script.run("promise 17, wrong inputs", "codeLength 0 ! Argument", "codeLength 15 ! Argument",
                "codeLength -1 ! Argument", "codeLength 2147483647 ! Argument",
                "codeLength -2147483648 ! Argument");
    }

    private static void codeRing() {
        for (int code = 1; code <= 14; code++) {
            String rings = RINGS[code - 1];
            for (int k = 0; k < rings.length(); k++) {
                Script.run("promise 18", "codeRing " + code + " " + k + " = " + rings.charAt(k));
            }
            Script.run("promise 18, no such ring", "codeRing " + code + " " + rings.length() + " = -1",
                    "codeRing " + code + " -1 = -1", "codeRing " + code + " 2147483647 = -1",
                    "codeRing " + code + " -2147483648 = -1", "codeRing " + code + " 32 = -1");
        }
        Script.run("promise 18, wrong inputs", "codeRing 0 0 ! Argument", "codeRing 15 0 ! Argument",
                "codeRing 0 -1 ! Argument", "codeRing 2147483647 0 ! Argument");
    }

    private static void codeCost() {
        Script.run("promise 19",
                "codeCost 0 = 0", "addSubscriber 0 1 1 = 0", "codeCost 0 = 5", "codeCost 1 = 0",
                "addSubscriber 0 1 14 = 1", "codeCost 0 = 20", "addSubscriber 1 1 10 = 2",
                "codeCost 0 = 20", "codeCost 1 = 13", "set 1 2 99 = 1", "codeCost 0 = 1490",
                "set 0 2 0 = 1", "codeCost 0 = 1485", "codeCost 2 ! Index", "codeCost -1 ! Index",
                "codeCost 2147483647 ! Index");
    }

    private static void bestCodes() {
        Script.run("promise 20",
                "bestCodes 0 = 0", "addSubscriber 0 1 14 = 0", "bestCodes 0 = 5",
                "addSubscriber 1 1 13 = 1", "bestCodes 1 = 5", "addSubscriber 0 1 13 = 2",
                "bestCodes 0 = 12", "set 2 2 10 = 1", "bestCodes 0 = 57", "set 0 2 0 = 1",
                "bestCodes 0 = 50", "codeCost 0 = 130", "bestCodes 2 ! Index", "bestCodes -1 ! Index",
                "bestCodes -2147483648 ! Index");
    }

    /** Few subscribers, so that every way to give them different codes can be tried. */
    private static void bestCodesAgainstAllChoices() {
        int[][] weights = {{3, 9, 1, 4}, {7, 7, 7, 7}, {0, 99, 0, 98}, {1, 2, 3, 4}, {50, 1, 50, 2}};
        for (int[] row : weights) {
            Party party = new Real();
            for (int i = 0; i < row.length; i++) {
                party.call("addSubscriber", 0, 1, 14 - i);
                party.call("set", i, 2, row[i]);
            }
            Script.due("promise 20, all choices", leastCost(row, 0, 0), party.call("bestCodes", 0));
        }
    }

    private static long leastCost(int[] weights, int next, int taken) {
        if (next == weights.length) {
            return 0;
        }
        long least = Long.MAX_VALUE;
        for (int code = 1; code <= 14; code++) {
            if ((taken >> code & 1) == 0) {
                long rest = leastCost(weights, next + 1, taken | 1 << code);
                least = Math.min(least, weights[next] * LENGTHS[code - 1] + rest);
            }
        }
        return least;
    }

    private static void assignCodes() {
        Script.run("promise 21",
                "assignCodes 0 = 0", "addSubscriber 0 1 1 = 0", "addSubscriber 0 1 9 = 1",
                "addSubscriber 1 1 9 = 2", "addSubscriber 0 1 5 = 3", "set 3 2 7 = 1",
                "assignCodes 0 = 3", "subscriber 3 0 = 1", "subscriber 0 0 = 2", "subscriber 1 0 = 3",
                "subscriber 2 0 = 9", "assignCodes 0 = 0", "set 1 2 7 = 1", "assignCodes 0 = 3",
                "subscriber 1 0 = 1", "subscriber 3 0 = 2", "subscriber 0 0 = 3", "undo = 3",
                "subscriber 3 0 = 1", "set 0 2 0 = 1", "assignCodes 0 = 3", "subscriber 0 0 = 3",
                "subscriber 1 0 = 1", "subscriber 3 0 = 2");
    }

    private static void assignCodesToFourteen() {
        int[] byLength = {1, 2, 3, 4, 5, 7, 6, 8, 9, 11, 10, 12, 13, 14};
        Party party = new Real();
        for (int i = 0; i < 14; i++) {
            party.call("addSubscriber", 1, 1, 14 - i);
        }
        long best = party.call("bestCodes", 1);
        int changed = 0;
        for (int i = 0; i < 14; i++) {
            changed += byLength[i] == 14 - i ? 0 : 1;
        }
        Script.due("promise 21, fourteen", changed, party.call("assignCodes", 1));
        for (int i = 0; i < 14; i++) {
            Script.due("promise 21, code of " + i, byLength[i], party.call("subscriber", i, 0));
        }
        Script.due("promise 21, cost", 144, party.call("codeCost", 1));
        Script.due("promise 20, fourteen", 144, best);
    }

    private static void assignCodesRefused() {
        Script.run("promise 21, wrong inputs",
                "assignCodes 2 ! Index", "assignCodes -1 ! Index", "addSubscriber 0 1 3 = 0",
                "addSubscriber 1 1 4 = 1", "addSubscriber 0 1 5 = 2", "lift 0 = 1", "dial 0 1 = 2",
                "assignCodes 1 ! State", "assignCodes 0 = 2", "hang 0 = 0", "assignCodes 1 = 1",
                "lift 0 = 1", "dial 0 2 = 6", "assignCodes 0 = 0", "hang 0 = 7",
                "assignCodes 0 ! State", "lift 2 = 8", "assignCodes 0 = 0");
    }
}
