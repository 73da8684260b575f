/** Two loops with seven subscribers, and the rows that bring loop 0 to each of the phases. */
final class Scene {
    static final String MIN = String.valueOf(Integer.MIN_VALUE);
    static final String MAX = String.valueOf(Integer.MAX_VALUE);

    /** For each phase of loop 0, how many loops are not free then. */
    static final int[] IN_USE = {0, 1, 2, 2, 2, 1, 1, 1, 1};

    /** For each code from 1, a sign a tick: 1 in a short ring, 2 in a long one, else silence. */
    private static final String[] SOUNDS = {"1....", "222....", "1.1....", "1.222....",
        "222.1....", "222.222....", "1.1.1....", "1.1.222....", "1.222.1....", "1.222.222....",
        "222.1.1....", "222.1.222....", "222.222.1....", "222.222.222...."};

    private static final String[][] TO_PHASE = {
        {},
        {"lift 0 = 1"},
        {"lift 0 = 1", "dial 0 4 = 2"},
        {"lift 4 = 1", "dial 4 0 = 2"},
        {"lift 0 = 1", "dial 0 4 = 2", "lift 4 = 4"},
        {"lift 0 = 1", "dial 0 0 = 5"},
        {"lift 0 = 1", "dial 0 1 = 6"},
        {"lift 0 = 1", "dial 0 1 = 6", "hang 0 = 7"},
        {"lift 0 = 1", "dial 0 1 = 6", "hang 0 = 7", "lift 1 = 8"}};

    private Scene() {
    }

    /** Loop 0: 0 to 3, of which 3 is behind the last span; loop 1: 4 to 6. */
    static Rows people() {
        return new Rows().add(
                "addSubscriber 0 2 1 = 0", "addSubscriber 0 4 2 = 1", "addSubscriber 0 6 4 = 2",
                "addSubscriber 0 12 14 = 3", "addSubscriber 1 3 1 = 4", "addSubscriber 1 5 3 = 5",
                "addSubscriber 1 7 6 = 6");
    }

    static Rows inPhase(int phase) {
        return people().add(toPhase(phase));
    }

    /** In phase 4 loop 0 is the caller; in phase 8 the first party, 0, is on the hook. */
    static String[] toPhase(int phase) {
        return TO_PHASE[phase].clone();
    }

    static String sounds(int code) {
        return SOUNDS[code - 1];
    }

    static int length(int code) {
        return SOUNDS[code - 1].length();
    }

    /** Sixteen subscribers in five loops: three in each, four in loop 0; number i is in loop i % 5. */
    static Rows full() {
        Rows rows = new Rows().add("addLoop = 2", "addLoop = 3", "addLoop = 4");
        for (int i = 0; i < 16; i++) {
            rows.add("addSubscriber " + i % 5 + " " + (1 + i % 12) + " " + (1 + i / 5) + " = " + i);
        }
        return rows;
    }

    /** Fourteen subscribers in loop 0, number i with code i + 1. */
    static Rows fullLoop() {
        Rows rows = new Rows();
        for (int i = 0; i < 14; i++) {
            rows.add("addSubscriber 0 " + (1 + i % 12) + " " + (i + 1) + " = " + i);
        }
        return rows;
    }
}
