import java.util.Arrays;
import java.util.Random;

/**
 * Long runs of calls, the same each time: the program answers as the model does, call by call, and
 * what the document says of the phases holds after each call.
 */
final class ModelTest {
    private static final int RUNS = 400;
    private static final int CALLS = 500;
    private static final int[] ODD = {-1, 5, 16, 99, Integer.MIN_VALUE, Integer.MAX_VALUE};

    private final Random random;
    private final Party real = new Real();
    private final Party model = new Model();
    private final int[] phasesSeen;
    private final String title;
    private final int eagerness;

    private ModelTest(int run, int[] phasesSeen) {
        random = new Random(run);
        eagerness = 1 + run % 9;
        title = "run " + run;
        this.phasesSeen = phasesSeen;
    }

    public static void main(String[] args) {
        int[] phasesSeen = new int[9];
        for (int run = 0; run < RUNS; run++) {
            new ModelTest(run, phasesSeen).go();
        }
        System.out.println("phases seen: " + Arrays.toString(phasesSeen));
        for (int phase = 0; phase < 9; phase++) {
            Script.due("phase " + phase + " is seen often", true, phasesSeen[phase] > 10 * RUNS);
        }
        Script.end();
    }

    private void go() {
        int people = 3 + random.nextInt(12);
        for (int i = 0; i < people; i++) {
            same("addSubscriber", random.nextInt(2), 1 + random.nextInt(12), 1 + random.nextInt(14));
        }
        for (int i = 0; i < CALLS; i++) {
            if (!step()) {
                return;
            }
            checkPhases();
        }
    }

    /** False ends the run: after one wrong answer the others say nothing. */
    private boolean step() {
        int kind = random.nextInt(100);
        if (kind < 62) {
            return useAPhone();
        }
        if (kind < 72) {
            return same("tick", 1 + random.nextInt(random.nextInt(5) == 0 ? 200 : 15));
        }
        if (kind < 78) {
            return breakOrMend();
        }
        if (kind < 92) {
            return change();
        }
        return kind < 96 ? same("undo") : anyCall();
    }

    /** Who can dial does so soon, and tones are left, for otherwise few calls would come about. */
    private boolean useAPhone() {
        int hearing = firstInPhase(5);
        if (hearing != -1 && random.nextInt(3) != 0) {
            return same("hang", hearing);
        }
        int dialing = firstInPhase(1);
        if (dialing != -1 && random.nextInt(3) != 0) {
            int number = random.nextInt((int) real.call("subscribers") + 1);
            return same("wouldDial", dialing, number) && same("dial", dialing, number);
        }
        int who = random.nextInt((int) real.call("subscribers"));
        if (real.call("subscriber", who, 5) == 1) {
            return same("hang", who);
        }
        return random.nextInt(10) >= eagerness || same("lift", who);
    }

    private int firstInPhase(int phase) {
        for (int i = 0; i < real.call("loops"); i++) {
            if (real.call("loop", i, 0) == phase) {
                return (int) real.call("loop", i, 2);
            }
        }
        return -1;
    }

    private boolean breakOrMend() {
        int loop = random.nextInt((int) real.call("loops"));
        if (real.call("loop", loop, 6) != -1) {
            return same("testsNeeded", loop) && same("mend", loop);
        }
        return random.nextInt(3) != 0
                || same("fault", loop, 1 + random.nextInt(12), random.nextInt(4) / 3);
    }

    private boolean change() {
        int who = random.nextInt((int) real.call("subscribers"));
        switch (random.nextInt(9)) {
            case 0: return same("set", who, 0, 1 + random.nextInt(14));
            case 1: case 2: case 3: return same("set", who, 1, random.nextInt(2));
            case 4: return same("set", who, 2, random.nextInt(100));
            case 5: return same("setLimit", 10 + random.nextInt(30));
            case 6: return same("assignCodes", random.nextInt(2));
            case 7: return same("setRisk", random.nextInt(2), 1 + random.nextInt(12),
                    1 + random.nextInt(9));
            default: return random.nextInt(9) == 0 ? same("addLoop")
                    : same("addSubscriber", random.nextInt((int) real.call("loops")),
                            1 + random.nextInt(12), 1 + random.nextInt(14));
        }
    }

    /** Any call with any arguments, most of them near the edges. */
    private boolean anyCall() {
        String[] names = {"addSubscriber", "set", "subscriber", "loop", "lift", "hang", "dial",
            "tick", "setLimit", "rings", "wouldDial", "told", "codeLength", "codeRing", "codeCost",
            "bestCodes", "assignCodes", "fault", "mend", "isCut", "setRisk", "test", "testCost",
            "bestTest", "testsNeeded", "loops", "subscribers"};
        return same(names[random.nextInt(names.length)], any(), any(), any());
    }

    private int any() {
        return random.nextInt(5) == 0 ? ODD[random.nextInt(ODD.length)] : random.nextInt(16) - 1;
    }

    private boolean same(String name, int... args) {
        String got = Script.answer(real, name, args);
        String due = Script.answer(model, name, args);
        String what = title + ": " + name + Arrays.toString(args);
        Script.due(what, due, got);
        long hash = real.call("digest");
        long hashDue = model.call("digest");
        Script.due(what + ", digest", hashDue, hash);
        return got.equals(due) && hash == hashDue;
    }

    private void checkPhases() {
        for (int i = 0; i < real.call("loops"); i++) {
            int phase = (int) real.call("loop", i, 0);
            phasesSeen[phase]++;
            int first = (int) real.call("loop", i, 2);
            int second = (int) real.call("loop", i, 3);
            int far = (int) real.call("loop", i, 4);
            Script.due(title + ", first party", phase != 0, first != -1);
            Script.due(title + ", second party", phase >= 6, second != -1);
            Script.due(title + ", other end", phase >= 2 && phase <= 4, far != -1);
            if (far != -1) {
                int[] otherPhase = {0, 0, 3, 2, 4};
                Script.due(title + ", phase of the other end", otherPhase[phase],
                        real.call("loop", far, 0));
                Script.due(title + ", end of the other end", i, real.call("loop", far, 4));
                Script.due(title + ", one caller", phase == 4 ? 1 : 0,
                        real.call("loop", i, 5) + real.call("loop", far, 5));
            }
            checkStandings(i, phase, first, second);
        }
    }

    private void checkStandings(int loop, int phase, int first, int second) {
        for (int who = 0; who < real.call("subscribers"); who++) {
            long standing = real.call("subscriber", who, 6);
            if (real.call("subscriber", who, 3) != loop || standing <= 1) {
                continue;
            }
            boolean quiet = phase == 0 || phase == 3 || phase == 7;
            Script.due(title + ", nobody in phase " + phase, false, quiet);
            boolean isParty = who == first || phase == 8 && who == second;
            Script.due(title + ", a party", isParty, standing == 2);
        }
    }
}
