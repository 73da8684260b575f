/** The edges of TICKS and CODES and of the promises 12 to 14 and 17 to 21. */
final class TicksEdgesTest {
    private static final int[] LIMITS = {10, 11, 59, 60, 61, 199, 200};

    private TicksEdgesTest() {
    }

    public static void main(String[] args) {
        numberOfTicks();
        manyTicksAtOnce();
        loopsInUse();
        twelveTicksToDial();
        fiveRoundsOfRinging();
        fourRoundsOfReverting();
        phasesThatLast();
        meterEachSixTicks();
        limitValues();
        limitInPhaseFour();
        limitInPhaseEight();
        limitIsOverAlready();
        nobodyIsLockedOut();
        otherEndInItsTurn();
        bellsOfEachCode();
        bellsWhileReverting();
        bellsInOtherPhases();
        codeNumbers();
        ringsOfACode();
        costs();
        bestCodesOfNobodyAndOfFourteen();
        equalWeightsAndLengths();
        assignInEachPhase();
        Script.end();
    }

    private static void numberOfTicks() {
        Script.run("1 to 200 ticks", "tick 1 = 0", "loop 0 1 = 1", "loop 1 1 = 1", "tick 200 = 0",
                "loop 0 1 = 201", "tick 0 ! Argument", "tick 201 ! Argument", "tick -1 ! Argument",
                "tick " + Scene.MIN + " ! Argument", "tick " + Scene.MAX + " ! Argument",
                "loop 0 1 = 201");
    }

    private static void manyTicksAtOnce() {
        for (int phase = 0; phase <= 8; phase++) {
            Party atOnce = new Real();
            Party oneByOne = new Real();
            Rows rows = Scene.inPhase(phase).add("setLimit 77 = 60", "set 0 1 1 = 0");
            rows.bring(atOnce);
            rows.bring(oneByOne);
            atOnce.call("tick", 200);
            for (int i = 0; i < 200; i++) {
                oneByOne.call("tick", 1);
            }
            Script.due("200 ticks at once in phase " + phase, oneByOne.call("digest"),
                    atOnce.call("digest"));
        }
    }

    private static void loopsInUse() {
        Scene.full().add("tick 1 = 0", "lift 0 = 1", "tick 1 = 1", "lift 1 = 1", "tick 1 = 2",
                "lift 2 = 1", "tick 1 = 3", "lift 3 = 1", "tick 1 = 4", "lift 4 = 1", "tick 1 = 5",
                "hang 4 = 0", "tick 1 = 4", "fault 3 1 1 = 3", "tick 1 = 3")
                .run("the number of loops that are not in phase 0, 0 to 5");
    }

    private static void twelveTicksToDial() {
        Scene.inPhase(1).add("lift 2 = 1", "tick 11 = 1", "loop 0 0 = 1", "loop 0 1 = 11",
                "tick 1 = 1", "loop 0 0 = 5", "loop 0 1 = 0", "loop 0 2 = 0", "subscriber 2 6 = 3",
                "tick 12 = 1", "loop 0 0 = 5", "loop 0 1 = 12")
                .run("phase 1: if the timer is 12, phase 5 with its first party");
        Scene.people().add("tick 11 = 0", "lift 3 = 1", "tick 11 = 1", "loop 0 0 = 1", "tick 1 = 1",
                "loop 0 0 = 5", "loop 0 2 = 3").run("phase 1: counted from lifting");
    }

    private static void fiveRoundsOfRinging() {
        for (int code = 1; code <= 14; code++) {
            int last = 5 * Scene.length(code) - 1;
            for (int rung = 0; rung <= 1; rung++) {
                int calling = 1 - rung;
                Script.run("phase 3: 5 times the length of code " + code + " in loop " + rung,
                        "addSubscriber " + calling + " 1 1 = 0",
                        "addSubscriber " + rung + " 1 " + code + " = 1", "lift 0 = 1", "tick 3 = 1",
                        "dial 0 1 = 2", "tick " + last + " = 2", "loop " + rung + " 0 = 3",
                        "loop " + rung + " 1 = " + last, "told 2 = 0", "tick 1 = 1",
                        "loop " + rung + " 0 = 0", "loop " + rung + " 1 = 0",
                        "loop " + rung + " 2 = -1", "loop " + rung + " 4 = -1",
                        "loop " + calling + " 0 = 5", "loop " + calling + " 1 = 0",
                        "loop " + calling + " 2 = 0", "loop " + calling + " 4 = -1", "told 2 = 1");
            }
        }
        Scene.inPhase(2).add("tick 24 = 2", "lift 5 = 4", "loop 0 0 = 4", "told 2 = 0")
                .run("phase 3: answered in the last tick");
        Scene.inPhase(2).add("tick 25 = 1", "lift 5 = 1", "loop 0 0 = 5", "told 2 = 1")
                .run("phase 3: one tick too late to answer");
    }

    private static void fourRoundsOfReverting() {
        for (int first = 1; first <= 14; first++) {
            for (int second : new int[] {first % 14 + 1, 15 - first}) {
                int last = 4 * (Scene.length(first) + Scene.length(second)) - 1;
                Script.run("phase 7: 4 times the lengths of " + first + " and " + second,
                        "addSubscriber 1 1 " + first + " = 0",
                        "addSubscriber 1 1 " + second + " = 1", "lift 0 = 1", "dial 0 1 = 6",
                        "tick 3 = 1", "hang 0 = 7", "tick " + last + " = 1", "loop 1 0 = 7",
                        "loop 1 1 = " + last, "told 2 = 0", "tick 1 = 0", "loop 1 0 = 0",
                        "loop 1 1 = 0", "loop 1 2 = -1", "loop 1 3 = -1", "told 2 = 1");
            }
        }
    }

    private static void phasesThatLast() {
        for (int phase : new int[] {0, 4, 5, 6, 8}) {
            String used = " = " + Scene.IN_USE[phase];
            Scene.inPhase(phase).add("lift 2 = " + new int[] {1, 1, 2, 4, 4, 5, 6, 8, 8}[phase],
                    "hang 2 = " + phase, "setLimit 10 = 60", "tick 200" + used, "tick 200" + used,
                    "loop 0 0 = " + phase, "loop 0 1 = 400", "told 2 = 0")
                    .run("nothing ends phase " + phase + " by itself");
        }
    }

    private static void meterEachSixTicks() {
        Scene.inPhase(4).add("lift 1 = 4", "lift 5 = 4", "tick 5 = 2", "subscriber 0 7 = 0",
                "tick 1 = 2", "subscriber 0 7 = 1", "tick 1 = 2", "subscriber 0 7 = 1", "tick 4 = 2",
                "subscriber 0 7 = 1", "tick 1 = 2", "subscriber 0 7 = 2", "subscriber 4 7 = 0",
                "subscriber 1 7 = 0", "subscriber 5 7 = 0", "tick 187 = 2", "subscriber 0 7 = 33",
                "tick 1 = 2", "subscriber 0 7 = 33", "tick 4 = 2", "subscriber 0 7 = 34")
                .run("phase 4: if the timer is a multiple of 6");
        Scene.people().add("lift 4 = 1", "dial 4 0 = 2", "lift 3 = 4", "tick 6 = 2",
                "subscriber 4 7 = 1", "subscriber 3 7 = 0", "subscriber 0 7 = 0", "hang 4 = 0",
                "tick 6 = 1", "subscriber 4 7 = 1", "hang 3 = 0", "lift 4 = 1", "dial 4 0 = 2",
                "tick 6 = 2", "subscriber 4 7 = 1", "lift 0 = 4", "tick 6 = 2", "subscriber 4 7 = 2")
                .run("phase 4: the meter of the caller alone, and it goes on");
        for (int phase : new int[] {1, 2, 3, 5, 6, 7, 8}) {
            String used = " = " + Scene.IN_USE[phase];
            Scene.inPhase(phase).add("tick 6" + used, "tick 5" + used, "subscriber 0 7 = 0",
                    "subscriber 1 7 = 0", "subscriber 4 7 = 0").run("no meter in phase " + phase);
        }
        Scene.inPhase(8).add("lift 0 = 8", "tick 60 = 1", "subscriber 0 7 = 0", "subscriber 1 7 = 0")
                .run("no meter while both talk in the loop");
    }

    private static void limitValues() {
        Script.run("a limit from 10 to 200 (at first 60)", "setLimit 10 = 60", "setLimit 200 = 10",
                "setLimit 9 ! Argument", "setLimit 201 ! Argument", "setLimit 0 ! Argument",
                "setLimit -10 ! Argument", "setLimit " + Scene.MIN + " ! Argument",
                "setLimit " + Scene.MAX + " ! Argument", "setLimit 200 = 200", "setLimit 11 = 200",
                "setLimit 199 = 11");
    }

    private static void limitInPhaseFour() {
        for (int limit : LIMITS) {
            for (int locked : new int[] {1, 5}) {
                int units = limit / 6;
                Scene.inPhase(4).add("setLimit " + limit + " = 60", "set 0 1 1 = 0", "set 4 1 1 = 0",
                        "lift " + locked + " = 4", "subscriber " + locked + " 6 = 4",
                        "tick " + (limit - 1) + " = 2", "loop 0 0 = 4", "loop 1 0 = 4",
                        "loop 0 1 = " + (limit - 1), "tick 1 = 2", "loop 0 0 = 5", "loop 1 0 = 5",
                        "loop 0 1 = 0", "loop 1 1 = 0", "loop 0 2 = 0", "loop 1 2 = 4",
                        "loop 0 4 = -1", "loop 1 4 = -1", "subscriber 0 7 = " + units,
                        "subscriber " + locked + " 6 = " + (locked == 1 ? 3 : 4), "told 2 = 0")
                        .run("phase 4: the limit " + limit + ", locked out is " + locked);
            }
        }
        Scene.people().add("lift 4 = 1", "dial 4 0 = 2", "lift 0 = 4", "set 0 1 1 = 0", "lift 1 = 4",
                "tick 59 = 2", "loop 0 0 = 4", "tick 1 = 2", "loop 0 0 = 5", "loop 1 0 = 5",
                "loop 0 1 = 0", "loop 1 1 = 0", "subscriber 4 7 = 10")
                .run("phase 4: the limit at first, the caller is the higher loop");
    }

    private static void limitInPhaseEight() {
        for (int limit : LIMITS) {
            Scene.inPhase(8).add("setLimit " + limit + " = 60", "set 0 1 1 = 0", "lift 2 = 8",
                    "subscriber 2 6 = 4", "tick " + (limit - 1) + " = 1", "loop 0 0 = 8",
                    "loop 0 1 = " + (limit - 1), "tick 1 = 1", "loop 0 0 = 5", "loop 0 1 = 0",
                    "loop 0 2 = 1", "loop 0 3 = -1", "subscriber 1 6 = 2", "subscriber 2 6 = 3")
                    .run("phase 8: the limit " + limit);
        }
    }

    private static void limitIsOverAlready() {
        Scene.inPhase(4).add("tick 61 = 2", "loop 0 0 = 4", "set 0 1 1 = 0", "lift 1 = 4",
                "loop 0 0 = 4", "loop 0 1 = 61", "tick 1 = 2", "loop 0 0 = 5")
                .run("phase 4: at least the limit, when one is locked out late");
        Scene.inPhase(4).add("set 0 1 1 = 0", "lift 1 = 4", "tick 40 = 2", "setLimit 10 = 60",
                "loop 0 0 = 4", "tick 1 = 2", "loop 0 0 = 5")
                .run("phase 4: at least the limit, when this is lowered");
        Scene.inPhase(4).add("set 0 1 1 = 0", "lift 1 = 4", "tick 59 = 2", "setLimit 61 = 60",
                "tick 1 = 2", "loop 0 0 = 4", "tick 1 = 2", "loop 0 0 = 5")
                .run("phase 4: the limit is raised in time");
        Scene.inPhase(8).add("tick 100 = 1", "set 1 1 1 = 0", "lift 2 = 8", "loop 0 1 = 100",
                "tick 1 = 1", "loop 0 0 = 5").run("phase 8: at least the limit");
    }

    private static void nobodyIsLockedOut() {
        for (int phase : new int[] {4, 8}) {
            String used = " = " + Scene.IN_USE[phase];
            Scene.inPhase(phase).add("lift 2 = " + phase, "set 0 1 1 = 0", "set 1 1 1 = 0",
                    "setLimit 10 = 60", "tick 200" + used, "loop 0 0 = " + phase, "lift 3 = " + phase,
                    "subscriber 3 6 = 4", "hang 3 = " + phase, "tick 1" + used,
                    "loop 0 0 = " + phase).run("the limit without one locked out, phase " + phase);
        }
        Scene.people().add("lift 1 = 1", "dial 1 2 = 6", "hang 1 = 7", "lift 2 = 8", "set 1 1 1 = 0",
                "lift 0 = 8", "addLoop = 2", "addSubscriber 2 1 1 = 7", "lift 4 = 1", "dial 4 7 = 2",
                "lift 7 = 4", "tick 59 = 3", "loop 1 0 = 4", "loop 0 0 = 8", "tick 1 = 3",
                "loop 1 0 = 4", "loop 0 0 = 5").run("one locked out in a third loop ends no call");
    }

    private static void otherEndInItsTurn() {
        Script.run("all timers increase before the first turn",
                "addSubscriber 1 1 1 = 0", "addSubscriber 0 1 1 = 1", "lift 0 = 1", "dial 0 1 = 2",
                "tick 25 = 1", "loop 1 0 = 5", "loop 1 1 = 0", "tick 1 = 1", "loop 1 1 = 1");
        Scene.inPhase(4).add("setLimit 10 = 60", "set 0 1 1 = 0", "lift 1 = 4", "tick 11 = 2",
                "loop 0 1 = 1", "loop 1 1 = 1").run("both loops go on from 0 after the limit");
    }

    private static void bellsOfEachCode() {
        for (int code = 1; code <= 14; code++) {
            Party party = new Real();
            party.call("addSubscriber", 0, 1, 1);
            party.call("addSubscriber", 1, 1, code);
            party.call("lift", 0);
            party.call("dial", 0, 1);
            comparePattern("the bells, code " + code, party, 1, Scene.sounds(code), 5);
        }
    }

    private static void comparePattern(String title, Party party, int loop, String pattern,
            int rounds) {
        for (int t = 0; t < rounds * pattern.length(); t++) {
            char sign = pattern.charAt(t % pattern.length());
            Script.due(title + " at " + t, sign == '.' ? 0 : sign - '0', party.call("rings", loop));
            party.call("tick", 1);
        }
        Script.due(title + ", lost then", 0, party.call("loop", loop, 0));
        Script.due(title + ", silent then", 0, party.call("rings", loop));
    }

    private static void bellsWhileReverting() {
        for (int first = 1; first <= 14; first++) {
            int second = first % 14 + 1;
            Party party = new Real();
            party.call("addSubscriber", 0, 1, first);
            party.call("addSubscriber", 0, 1, second);
            party.call("lift", 0);
            party.call("dial", 0, 1);
            party.call("hang", 0);
            comparePattern("the bells in turn, " + second + " and " + first, party, 0,
                    Scene.sounds(second) + Scene.sounds(first), 4);
        }
    }

    private static void bellsInOtherPhases() {
        for (int phase = 0; phase <= 8; phase++) {
            int sound = phase == 3 ? 1 : phase == 7 ? 2 : 0;
            Scene.inPhase(phase).add("rings 0 = " + sound, "rings 1 = " + (phase == 2 ? 1 : 0),
                    "rings 2 ! Index", "rings -1 ! Index").run("bells in phase " + phase);
        }
    }

    private static void codeNumbers() {
        Rows rows = new Rows();
        for (int code = 1; code <= 14; code++) {
            rows.add("codeLength " + code + " = " + Scene.length(code));
        }
        for (String none : new String[] {"0", "15", "-1", Scene.MIN, Scene.MAX}) {
            rows.add("codeLength " + none + " ! Argument", "codeRing " + none + " 0 ! Argument",
                    "codeRing " + none + " -1 ! Argument", "codeRing " + none + " 9 ! Argument");
        }
        rows.run("codes from 1 to 14");
    }

    private static void ringsOfACode() {
        for (int code = 1; code <= 14; code++) {
            String rings = Scene.sounds(code).replace("222", "2").replace(".", "");
            Rows rows = new Rows();
            for (int k = 0; k < rings.length(); k++) {
                rows.add("codeRing " + code + " " + k + " = " + (rings.charAt(k) - '1'));
            }
            for (String none : new String[] {"-1", String.valueOf(rings.length()), "31", "32", "33",
                Scene.MIN, Scene.MAX}) {
                rows.add("codeRing " + code + " " + none + " = -1");
            }
            rows.run("NONE if there is no such ring, code " + code);
        }
    }

    private static void costs() {
        Script.run("a loop without subscribers, and without weights", "codeCost 0 = 0",
                "bestCodes 0 = 0", "addSubscriber 0 1 14 = 0", "set 0 2 0 = 1", "codeCost 0 = 0",
                "bestCodes 0 = 0", "set 0 2 99 = 0", "codeCost 0 = 1485", "bestCodes 0 = 495",
                "codeCost 1 = 0", "bestCodes 1 = 0");
        Rows rows = Scene.fullLoop();
        for (int i = 0; i < 14; i++) {
            rows.add("set " + i + " 2 99 = 1");
        }
        rows.add("codeCost 0 = " + 99 * 144, "bestCodes 0 = " + 99 * 144, "codeCost 1 = 0")
                .run("the greatest cost");
    }

    private static void bestCodesOfNobodyAndOfFourteen() {
        Script.run("nobody gets a code", "assignCodes 0 = 0", "undo = 0");
        int[] byLength = {1, 2, 3, 4, 5, 7, 6, 8, 9, 11, 10, 12, 13, 14};
        Rows rows = Scene.fullLoop().add("bestCodes 0 = 144", "assignCodes 0 = 4");
        for (int i = 0; i < 14; i++) {
            rows.add("subscriber " + i + " 0 = " + byLength[i]);
        }
        rows.add("codeCost 0 = 144", "assignCodes 0 = 0");
        for (int i = 0; i < 14; i++) {
            rows.add("set " + i + " 2 " + i * 7 + " = 1");
        }
        rows.add("assignCodes 0 = 14");
        for (int i = 0; i < 14; i++) {
            rows.add("subscriber " + i + " 0 = " + byLength[13 - i]);
        }
        rows.run("fourteen get all codes");
    }

    private static void equalWeightsAndLengths() {
        Script.run("for equal weights by their numbers", "addSubscriber 1 1 9 = 0",
                "addSubscriber 0 1 3 = 1", "addSubscriber 0 1 2 = 2", "addSubscriber 0 1 1 = 3",
                "assignCodes 0 = 2", "subscriber 1 0 = 1", "subscriber 2 0 = 2", "subscriber 3 0 = 3",
                "subscriber 0 0 = 9", "set 3 2 2 = 1", "assignCodes 0 = 3", "subscriber 3 0 = 1",
                "subscriber 1 0 = 2", "subscriber 2 0 = 3", "set 1 2 0 = 1", "set 3 2 0 = 2",
                "assignCodes 0 = 2", "subscriber 2 0 = 1", "subscriber 1 0 = 2", "subscriber 3 0 = 3");
        Script.run("a code that is as long, but has a greater number", "addSubscriber 0 1 1 = 0",
                "addSubscriber 0 1 3 = 1", "bestCodes 0 = 12", "codeCost 0 = 12", "assignCodes 0 = 1",
                "subscriber 1 0 = 2", "codeCost 0 = 12");
    }

    private static void assignInEachPhase() {
        for (int phase = 0; phase <= 8; phase++) {
            boolean isRung = phase == 3 || phase == 7;
            Scene.inPhase(phase).add("tick 2 = " + Scene.IN_USE[phase],
                    isRung ? "assignCodes 0 ! State" : "assignCodes 0 = 2",
                    phase == 2 ? "assignCodes 1 ! State" : "assignCodes 1 = 2",
                    "subscriber 3 0 = " + (isRung ? 14 : 4), "loop 0 0 = " + phase, "loop 0 1 = 2",
                    "bestCodes 0 = 28", "codeCost 0 = " + (isRung ? 36 : 28))
                    .run("other codes in all phases but 3 and 7; phase " + phase);
        }
    }
}
