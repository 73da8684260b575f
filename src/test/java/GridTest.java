import java.util.ArrayList;
import java.util.Arrays;
import java.util.LinkedHashMap;
import java.util.List;
import java.util.Map;

/**
 * Every method with every choice of arguments on and beyond its edges, in many states: the answer
 * or the exception is the model's, a call that throws leaves the digest as it was, and after any
 * other call it is the model's.
 */
final class GridTest {
    private static final int MIN = Integer.MIN_VALUE;
    private static final int MAX = Integer.MAX_VALUE;

    private static final int[] LOOP = {MIN, -1, 0, 1, 2, 4, 5, MAX};
    private static final int[] SUBSCRIBER = {MIN, -1, 0, 1, 3, 4, 6, 7, 13, 14, 15, 16, MAX};
    private static final int[] SPAN = {MIN, -1, 0, 1, 2, 6, 11, 12, 13, MAX};
    private static final int[] CODE = {MIN, -1, 0, 1, 2, 13, 14, 15, MAX};
    private static final int[] WHAT = {MIN, -1, 0, 1, 2, 3, 4, 5, 6, 7, 8, 9, MAX};
    private static final int[] VALUE = {MIN, -1, 0, 1, 2, 13, 14, 15, 99, 100, MAX};
    private static final int[] TICKS = {MIN, -1, 0, 1, 12, 200, 201, MAX};
    private static final int[] LIMIT = {MIN, -1, 0, 9, 10, 200, 201, MAX};
    private static final int[] RISK = {MIN, -1, 0, 1, 9, 10, MAX};
    private static final int[] RING = {MIN, -1, 0, 1, 2, 3, 32, MAX};
    private static final int[] YES_OR_NO = {0, 1};

    private static final int[][] NOTHING = {};

    private GridTest() {
    }

    public static void main(String[] args) {
        for (Map.Entry<String, Rows> state : states().entrySet()) {
            state.getValue().run(state.getKey());
            for (Map.Entry<String, int[][]> method : methods().entrySet()) {
                checkAll(state.getKey(), state.getValue(), method.getKey(), method.getValue());
            }
        }
        Script.end();
    }

    private static Map<String, int[][]> methods() {
        Map<String, int[][]> methods = new LinkedHashMap<>();
        for (String name : new String[] {"addLoop", "loops", "subscribers", "undo", "digest"}) {
            methods.put(name, NOTHING);
        }
        for (String name : new String[] {"rings", "codeCost", "bestCodes", "assignCodes", "mend",
            "testsNeeded"}) {
            methods.put(name, new int[][] {LOOP});
        }
        for (String name : new String[] {"lift", "hang", "isCut"}) {
            methods.put(name, new int[][] {SUBSCRIBER});
        }
        methods.put("addSubscriber", new int[][] {LOOP, SPAN, CODE});
        methods.put("set", new int[][] {SUBSCRIBER, WHAT, VALUE});
        methods.put("subscriber", new int[][] {SUBSCRIBER, WHAT});
        methods.put("loop", new int[][] {LOOP, WHAT});
        methods.put("dial", new int[][] {SUBSCRIBER, SUBSCRIBER});
        methods.put("wouldDial", new int[][] {SUBSCRIBER, SUBSCRIBER});
        methods.put("tick", new int[][] {TICKS});
        methods.put("setLimit", new int[][] {LIMIT});
        methods.put("told", new int[][] {WHAT});
        methods.put("codeLength", new int[][] {CODE});
        methods.put("codeRing", new int[][] {CODE, RING});
        methods.put("fault", new int[][] {LOOP, SPAN, YES_OR_NO});
        methods.put("setRisk", new int[][] {LOOP, SPAN, RISK});
        methods.put("test", new int[][] {LOOP, SPAN});
        methods.put("testCost", new int[][] {LOOP, SPAN, SPAN});
        methods.put("bestTest", new int[][] {LOOP, SPAN, SPAN});
        return methods;
    }

    private static Map<String, Rows> states() {
        Map<String, Rows> states = new LinkedHashMap<>();
        states.put("a new object", new Rows());
        states.put("one saved state", new Rows().add("setLimit 10 = 60"));
        states.put("a full loop", Scene.fullLoop().add("lift 13 = 1", "lift 0 = 1"));
        states.put("all is full", Scene.full().add("lift 0 = 1", "dial 0 4 = 2", "lift 15 = 2",
                "fault 2 3 0 = 2", "lift 2 = 0"));
        for (int phase = 0; phase <= 8; phase++) {
            states.put("phase " + phase, Scene.inPhase(phase).add("tick 2 = "
                    + Scene.IN_USE[phase]));
            states.put("behind an open, phase " + phase, Scene.people().add("set 0 1 1 = 0",
                    "fault 0 12 0 = 1", "lift 3 = 0").add(Scene.toPhase(phase)));
        }
        states.put("an open", Scene.inPhase(1).add("fault 0 1 0 = 4"));
        states.put("a short", Scene.inPhase(4).add("lift 6 = 4", "fault 1 11 1 = 3"));
        states.put("locked out", Scene.inPhase(4).add("set 0 1 1 = 0", "set 4 1 1 = 0", "lift 1 = 4",
                "lift 5 = 4", "tick 59 = 2"));
        states.put("locked out in the loop", Scene.inPhase(8).add("set 0 1 1 = 0", "lift 2 = 8",
                "lift 0 = 8", "tick 59 = 1"));
        return states;
    }

    private static void checkAll(String title, Rows state, String name, int[][] edges) {
        Party real = null;
        Party model = null;
        for (int[] args : choices(edges)) {
            if (real == null) {
                real = new Real();
                model = new Model();
                state.bring(real);
                state.bring(model);
            }
            if (!checkOne(title + ": " + name + Arrays.toString(args), real, model, name, args)) {
                real = null;
            }
        }
    }

    /** False if the call may have changed something, so that the next one needs new objects. */
    private static boolean checkOne(String what, Party real, Party model, String name, int[] args) {
        long before = real.call("digest");
        String got = Script.answer(real, name, args);
        Script.due(what, Script.answer(model, name, args), got);
        long after = real.call("digest");
        Script.due(what + ", digest", model.call("digest"), after);
        if (got.endsWith("Exception")) {
            Script.due(what + ", the digest as before it", before, after);
        }
        return before == after;
    }

    private static List<int[]> choices(int[][] edges) {
        List<int[]> all = new ArrayList<>();
        all.add(new int[0]);
        for (int[] edge : edges) {
            List<int[]> longer = new ArrayList<>();
            for (int[] start : all) {
                for (int value : edge) {
                    int[] args = Arrays.copyOf(start, start.length + 1);
                    args[start.length] = value;
                    longer.add(args);
                }
            }
            all = longer;
        }
        return all;
    }
}
