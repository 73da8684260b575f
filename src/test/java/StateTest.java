/** Promises 30 and 31: undo and the digest. */
final class StateTest {
    private StateTest() {
    }

    public static void main(String[] args) {
        undoCounts();
        undoDropsTheOldest();
        undoOfCallsThatChangeNothing();
        undoTakesBackBothLoops();
        refusedCallsSaveNothing();
        digestOfANewObject();
        digestByTheDocument();
        digestSeesEachValue();
        Script.end();
    }

    private static void undoCounts() {
        Script.run("promise 30",
                "undo ! State", "setLimit 10 = 60", "setLimit 11 = 10", "undo = 1", "undo = 0",
                "undo ! State", "setLimit 20 = 60", "undo = 0", "undo ! State");
    }

    private static void undoDropsTheOldest() {
        Script.run("promise 30, four states",
                "setLimit 11 = 60", "setLimit 12 = 11", "setLimit 13 = 12", "setLimit 14 = 13",
                "setLimit 15 = 14", "setLimit 16 = 15", "undo = 3", "undo = 2", "undo = 1",
                "undo = 0", "undo ! State", "setLimit 17 = 12", "undo = 0");
        Script.run("promise 30, saving again after undo()",
                "setLimit 11 = 60", "setLimit 12 = 11", "setLimit 13 = 12", "setLimit 14 = 13",
                "undo = 3", "undo = 2", "setLimit 21 = 12", "setLimit 22 = 21", "setLimit 23 = 22",
                "undo = 3", "undo = 2", "undo = 1", "setLimit 24 = 12", "undo = 1", "undo = 0",
                "setLimit 25 = 11");
    }

    private static void undoOfCallsThatChangeNothing() {
        Script.run("promise 30, even if nothing changes",
                "addSubscriber 0 1 1 = 0", "set 0 0 1 = 1", "setLimit 60 = 60", "setRisk 0 1 1 = 1",
                "assignCodes 0 = 0", "set 0 1 0 = 0", "undo = 3", "subscribers = 1", "undo = 2",
                "undo = 1", "undo = 0", "subscribers = 1", "undo ! State");
    }

    private static void undoTakesBackBothLoops() {
        Script.run("promise 30, both loops, meters and counts",
                "addSubscriber 0 1 1 = 0", "addSubscriber 1 1 1 = 1", "lift 0 = 1", "dial 0 1 = 2",
                "lift 1 = 4", "tick 12 = 2", "subscriber 0 7 = 2", "undo = 3", "subscriber 0 7 = 0",
                "loop 0 1 = 0", "undo = 2", "loop 0 0 = 2", "loop 1 0 = 3", "told 0 = 0",
                "loop 1 4 = 0", "undo = 1", "loop 0 0 = 1", "loop 1 0 = 0", "loop 0 4 = -1",
                "undo = 0", "loop 0 0 = 0", "subscriber 0 5 = 0");
        Script.run("promise 30, faults and risks",
                "addSubscriber 0 1 1 = 0", "lift 0 = 1", "setRisk 0 3 7 = 1", "fault 0 2 1 = 1",
                "mend 0 = 2", "loop 0 0 = 5", "undo = 3", "loop 0 6 = 2", "loop 0 7 = 1",
                "isCut 0 = 1", "undo = 2", "loop 0 6 = -1", "loop 0 0 = 1", "undo = 1",
                "setRisk 0 3 1 = 1");
    }

    private static void refusedCallsSaveNothing() {
        Script.run("promise 30, a call that throws saves nothing",
                "setLimit 10 = 60", "setLimit 9 ! Argument", "lift 0 ! Index", "tick 0 ! Argument",
                "mend 0 ! State", "addSubscriber 9 1 1 ! Index", "set 0 0 1 ! Index",
                "fault 0 13 0 ! Index", "setRisk 0 1 0 ! Argument", "assignCodes 7 ! Index",
                "dial 0 0 ! Index", "hang 0 ! Index", "undo = 0");
    }

    private static void digestOfANewObject() {
        Party party = new Real();
        Script.due("promise 31, a new object", digest(party, new int[2][12], 60, 0),
                party.call("digest"));
        Script.due("promise 31, asking again", digest(party, new int[2][12], 60, 0),
                party.call("digest"));
    }

    private static void digestByTheDocument() {
        Party party = new Real();
        party.call("addLoop");
        int[][] moreRisk = new int[3][12];
        moreRisk[2][4] = 8;
        moreRisk[0][11] = 2;
        party.call("setRisk", 2, 5, 9);
        party.call("setRisk", 0, 12, 3);
        party.call("addSubscriber", 2, 4, 13);
        party.call("addSubscriber", 0, 6, 2);
        party.call("addSubscriber", 2, 7, 1);
        party.call("addSubscriber", 1, 7, 1);
        party.call("set", 0, 2, 31);
        party.call("set", 1, 1, 1);
        party.call("setLimit", 33);
        party.call("fault", 2, 6, 0);
        party.call("lift", 2);
        Script.due("promise 31, four saved", digest(party, moreRisk, 33, 4), party.call("digest"));
        party.call("undo");
        party.call("lift", 1);
        party.call("dial", 1, 0);
        party.call("tick", 2);
        party.call("undo");
        Script.due("promise 31, rung", digest(party, moreRisk, 33, 3), party.call("digest"));
        party.call("lift", 0);
        party.call("tick", 7);
        party.call("undo");
        party.call("undo");
        Script.due("promise 31, two saved", digest(party, moreRisk, 33, 2), party.call("digest"));
    }

    /** Risks, the limit and the number of saved states cannot be asked for: they are given. */
    static long digest(Party party, int[][] moreRisk, int limit, int saved) {
        long h = 31 * 1857L + party.call("loops");
        for (int i = 0; i < moreRisk.length; i++) {
            for (int what = 0; what <= 8; what++) {
                h = 31 * h + party.call("loop", i, what);
            }
            h = 31 * h + party.call("rings", i);
            h = 31 * h + party.call("codeCost", i);
            for (int span = 0; span < 12; span++) {
                h = 31 * h + 1 + moreRisk[i][span];
            }
        }
        h = 31 * h + party.call("subscribers");
        for (int i = 0; i < party.call("subscribers"); i++) {
            for (int what = 0; what <= 7; what++) {
                h = 31 * h + party.call("subscriber", i, what);
            }
        }
        h = 31 * h + limit;
        for (int what = 0; what <= 5; what++) {
            h = 31 * h + party.call("told", what);
        }
        return 31 * h + saved;
    }

    private static void digestSeesEachValue() {
        String[][] changes = {
            {"setLimit", "61"}, {"setRisk", "1", "12", "2"}, {"set", "0", "1", "1"},
            {"set", "0", "2", "3"}, {"set", "0", "0", "3"}, {"tick", "1"}, {"lift", "0"},
            {"fault", "1", "2", "0"}, {"fault", "1", "2", "1"}, {"addLoop"}};
        Party plain = new Real();
        plain.call("addSubscriber", 0, 1, 1);
        plain.call("setLimit", 60);
        for (String[] change : changes) {
            int[] args = new int[change.length - 1];
            for (int i = 0; i < args.length; i++) {
                args[i] = Integer.parseInt(change[i + 1]);
            }
            Party party = new Real();
            party.call("addSubscriber", 0, 1, 1);
            party.call(change[0], args);
            Script.due("promise 31, seen: " + String.join(" ", change), true,
                    party.call("digest") != plain.call("digest"));
        }
    }
}
