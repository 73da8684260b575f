import java.util.Set;

/** The program itself. */
final class Real implements Party {
    static final Set<String> UNDOABLE = Set.of("addLoop", "addSubscriber", "set", "lift", "hang",
            "dial", "tick", "setLimit", "assignCodes", "fault", "mend", "setRisk");

    private final PartyLines lines = new PartyLines();

    @Override
    public long call(String name, int... a) {
        switch (name) {
            case "addLoop": return lines.addLoop();
            case "addSubscriber": return lines.addSubscriber(a[0], a[1], a[2]);
            case "set": return lines.set(a[0], a[1], a[2]);
            case "loops": return lines.loops();
            case "subscribers": return lines.subscribers();
            case "subscriber": return lines.subscriber(a[0], a[1]);
            case "loop": return lines.loop(a[0], a[1]);
            case "lift": return lines.lift(a[0]);
            case "hang": return lines.hang(a[0]);
            case "dial": return lines.dial(a[0], a[1]);
            case "tick": return lines.tick(a[0]);
            case "setLimit": return lines.setLimit(a[0]);
            case "rings": return lines.rings(a[0]);
            case "wouldDial": return lines.wouldDial(a[0], a[1]);
            case "told": return lines.told(a[0]);
            case "codeLength": return lines.codeLength(a[0]);
            case "codeRing": return lines.codeRing(a[0], a[1]);
            default: return callOfCodesFaultsOrState(name, a);
        }
    }

    private long callOfCodesFaultsOrState(String name, int... a) {
        switch (name) {
            case "codeCost": return lines.codeCost(a[0]);
            case "bestCodes": return lines.bestCodes(a[0]);
            case "assignCodes": return lines.assignCodes(a[0]);
            case "fault": return lines.fault(a[0], a[1], a[2] != 0);
            case "mend": return lines.mend(a[0]);
            case "isCut": return lines.isCut(a[0]) ? 1 : 0;
            case "setRisk": return lines.setRisk(a[0], a[1], a[2]);
            case "test": return lines.test(a[0], a[1]) ? 1 : 0;
            case "testCost": return lines.testCost(a[0], a[1], a[2]);
            case "bestTest": return lines.bestTest(a[0], a[1], a[2]);
            case "testsNeeded": return lines.testsNeeded(a[0]);
            case "undo": return lines.undo();
            case "digest": return lines.digest();
            default: throw new AssertionError("no such call: " + name);
        }
    }
}
