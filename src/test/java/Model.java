import java.util.ArrayDeque;
import java.util.ArrayList;
import java.util.Comparator;
import java.util.Deque;
import java.util.List;

/**
 * The document once more, in another form than the program's: roles are kept for each subscriber,
 * codes are texts, saved states are whole copies, and tests are searched without tables.
 */
final class Model implements Party {
    private enum Role { ON_HOOK, CUT, PARTY, LISTENS, LOCKED }

    private static final class Person {
        int code;
        int privacy;
        int weight = 1;
        int loop;
        int position;
        Role role = Role.ON_HOOK;
        int meter;
    }

    private static final class Line {
        int phase;
        int timer;
        int first = -1;
        int second = -1;
        int far = -1;
        boolean caller;
        int fault = -1;
        boolean isShort;
        List<Integer> risks = new ArrayList<>(List.of(1, 1, 1, 1, 1, 1, 1, 1, 1, 1, 1, 1));
    }

    private List<Line> lines = new ArrayList<>(List.of(new Line(), new Line()));
    private List<Person> people = new ArrayList<>();
    private int limit = 60;
    private int[] told = new int[6];
    private final Deque<Model> saved = new ArrayDeque<>();

    private void save() {
        Model copy = new Model();
        copy.take(this);
        saved.addLast(copy);
        if (saved.size() > 4) {
            saved.removeFirst();
        }
    }

    private void take(Model from) {
        lines = new ArrayList<>();
        for (Line l : from.lines) {
            Line c = new Line();
            c.phase = l.phase;
            c.timer = l.timer;
            c.first = l.first;
            c.second = l.second;
            c.far = l.far;
            c.caller = l.caller;
            c.fault = l.fault;
            c.isShort = l.isShort;
            c.risks = new ArrayList<>(l.risks);
            lines.add(c);
        }
        people = new ArrayList<>();
        for (Person p : from.people) {
            Person c = new Person();
            c.code = p.code;
            c.privacy = p.privacy;
            c.weight = p.weight;
            c.loop = p.loop;
            c.position = p.position;
            c.role = p.role;
            c.meter = p.meter;
            people.add(c);
        }
        limit = from.limit;
        told = from.told.clone();
    }

    private static void index(boolean ok) {
        if (!ok) {
            throw new IndexOutOfBoundsException();
        }
    }

    private static void argument(boolean ok) {
        if (!ok) {
            throw new IllegalArgumentException();
        }
    }

    private static void state(boolean ok) {
        if (!ok) {
            throw new IllegalStateException();
        }
    }

    private static boolean in(int value, int low, int high) {
        return low <= value && value <= high;
    }

    private Line line(int loop) {
        index(in(loop, 0, lines.size() - 1));
        return lines.get(loop);
    }

    private Person person(int subscriber) {
        index(in(subscriber, 0, people.size() - 1));
        return people.get(subscriber);
    }

    private List<Integer> members(int loop) {
        List<Integer> members = new ArrayList<>();
        for (int i = 0; i < people.size(); i++) {
            if (people.get(i).loop == loop) {
                members.add(i);
            }
        }
        return members;
    }

    @Override
    public long call(String name, int... a) {
        switch (name) {
            case "addLoop":
                state(lines.size() < 5);
                save();
                lines.add(new Line());
                return lines.size() - 1;
            case "addSubscriber": return addSubscriber(a[0], a[1], a[2]);
            case "set": return set(a[0], a[1], a[2]);
            case "loops": return lines.size();
            case "subscribers": return people.size();
            case "subscriber": return subscriber(a[0], a[1]);
            case "loop": return loop(a[0], a[1]);
            case "lift": return lift(a[0]);
            case "hang": return hang(a[0]);
            case "dial": return dial(a[0], a[1]);
            case "tick": return tick(a[0]);
            case "setLimit":
                argument(in(a[0], 10, 200));
                save();
                int before = limit;
                limit = a[0];
                return before;
            case "rings": return rings(a[0]);
            case "wouldDial": return wouldDial(a[0], a[1]);
            case "told":
                argument(in(a[0], 0, 5));
                return told[a[0]];
            default: return callOfCodesFaultsOrState(name, a);
        }
    }

    private long callOfCodesFaultsOrState(String name, int... a) {
        switch (name) {
            case "codeLength":
                argument(in(a[0], 1, 14));
                return sounds(a[0]).length();
            case "codeRing":
                argument(in(a[0], 1, 14));
                String digits = digits(a[0]);
                return in(a[1], 0, digits.length() - 1) ? digits.charAt(a[1]) - '0' : -1;
            case "codeCost":
                line(a[0]);
                return codeCost(a[0]);
            case "bestCodes": return bestCodes(a[0]);
            case "assignCodes": return assignCodes(a[0]);
            case "fault": return fault(a[0], a[1], a[2] != 0);
            case "mend": return mend(a[0]);
            case "isCut": return cut(person(a[0])) ? 1 : 0;
            case "setRisk":
                Line l = line(a[0]);
                index(in(a[1], 1, 12));
                argument(in(a[2], 1, 9));
                save();
                return l.risks.set(a[1] - 1, a[2]);
            case "test":
                Line tested = line(a[0]);
                argument(in(a[1], 1, 11));
                state(tested.fault != -1);
                return tested.fault <= a[1] ? 1 : 0;
            case "testCost": return plan(a[0], a[1], a[2])[0];
            case "bestTest": return plan(a[0], a[1], a[2])[1];
            case "testsNeeded":
                state(line(a[0]).fault != -1);
                return testsNeeded(line(a[0]), 1, 12);
            case "undo":
                state(!saved.isEmpty());
                take(saved.removeLast());
                return saved.size();
            case "digest": return digest();
            default: throw new AssertionError("no such call: " + name);
        }
    }

    private int addSubscriber(int loop, int position, int code) {
        line(loop);
        argument(in(position, 1, 12) && in(code, 1, 14));
        state(people.size() < 16 && !taken(loop, code, -1));
        save();
        Person p = new Person();
        p.loop = loop;
        p.position = position;
        p.code = code;
        people.add(p);
        return people.size() - 1;
    }

    private boolean taken(int loop, int code, int except) {
        return members(loop).stream().anyMatch(i -> i != except && people.get(i).code == code);
    }

    private int set(int subscriber, int what, int value) {
        Person p = person(subscriber);
        argument(in(what, 0, 2));
        int[] low = {1, 0, 0};
        int[] high = {14, 1, 99};
        argument(in(value, low[what], high[what]));
        int phase = lines.get(p.loop).phase;
        state(what != 0 || !taken(p.loop, value, subscriber) && phase != 3 && phase != 7);
        save();
        int before = (int) subscriber(subscriber, what);
        if (what == 0) {
            p.code = value;
        } else if (what == 1) {
            p.privacy = value;
        } else {
            p.weight = value;
        }
        return before;
    }

    private long subscriber(int subscriber, int what) {
        Person p = person(subscriber);
        argument(in(what, 0, 7));
        int off = p.role == Role.ON_HOOK ? 0 : 1;
        int[] values = {p.code, p.privacy, p.weight, p.loop, p.position, off, p.role.ordinal(),
            p.meter};
        return values[what];
    }

    private long loop(int loop, int what) {
        Line l = line(loop);
        argument(in(what, 0, 8));
        int[] values = {l.phase, l.timer, l.first, l.second, l.far, l.caller ? 1 : 0, l.fault,
            l.isShort ? 1 : 0, members(loop).size()};
        return values[what];
    }

    private boolean cut(Person p) {
        Line l = lines.get(p.loop);
        return l.fault != -1 && (l.isShort || p.position >= l.fault);
    }

    private void phase(Line l, int phase, int first, int second, int far) {
        l.phase = phase;
        l.timer = 0;
        l.first = first;
        l.second = second;
        l.far = far;
        l.caller = false;
    }

    private void end(int loop) {
        Line l = lines.get(loop);
        if (l.far != -1) {
            Line far = lines.get(l.far);
            phase(far, far.phase == 3 ? 0 : 5, far.phase == 3 ? -1 : far.first, -1, -1);
        }
        leave(loop);
    }

    private void leave(int loop) {
        int lowest = -1;
        for (int i : members(loop)) {
            Person p = people.get(i);
            if (p.role == Role.ON_HOOK) {
                continue;
            }
            if (cut(p)) {
                p.role = Role.CUT;
            } else {
                p.role = lowest == -1 ? Role.PARTY : Role.LISTENS;
                lowest = lowest == -1 ? i : lowest;
            }
        }
        phase(lines.get(loop), lowest == -1 ? 0 : 5, lowest, -1, -1);
    }

    private int lift(int subscriber) {
        Person p = person(subscriber);
        state(p.role == Role.ON_HOOK);
        save();
        Line l = lines.get(p.loop);
        if (cut(p)) {
            p.role = Role.CUT;
            return l.phase;
        }
        p.role = Role.PARTY;
        switch (l.phase) {
            case 0:
                phase(l, 1, subscriber, -1, -1);
                break;
            case 3:
                Line far = lines.get(l.far);
                phase(far, 4, far.first, -1, far.far);
                phase(l, 4, subscriber, -1, l.far);
                far.caller = true;
                told[0]++;
                break;
            case 7:
                if (subscriber == l.first) {
                    phase(l, 1, subscriber, -1, -1);
                } else {
                    phase(l, 8, l.first, subscriber, -1);
                    told[1]++;
                }
                break;
            default:
                if (l.phase != 8 || subscriber != l.first) {
                    join(l, p);
                }
        }
        return l.phase;
    }

    private void join(Line l, Person p) {
        boolean isPrivate = l.phase == 4 && people.get(l.first).privacy == 1
                || l.phase == 8
                && people.get(l.first).privacy + people.get(l.second).privacy > 0;
        p.role = isPrivate ? Role.LOCKED : Role.LISTENS;
        told[isPrivate ? 5 : 4]++;
    }

    private int hang(int subscriber) {
        Person p = person(subscriber);
        state(p.role != Role.ON_HOOK);
        save();
        Role role = p.role;
        p.role = Role.ON_HOOK;
        Line l = lines.get(p.loop);
        if (role == Role.PARTY) {
            boolean quiet = members(p.loop).stream().map(people::get)
                    .allMatch(q -> q.role == Role.ON_HOOK || q.role == Role.CUT);
            switch (l.phase) {
                case 2: case 4: case 8:
                    end(p.loop);
                    break;
                case 6:
                    if (quiet) {
                        phase(l, 7, l.first, l.second, -1);
                    } else {
                        leave(p.loop);
                    }
                    break;
                case 1: case 5:
                    leave(p.loop);
                    break;
                default: throw new AssertionError("a party in phase " + l.phase);
            }
        }
        return l.phase;
    }

    private int wouldDial(int subscriber, int number) {
        Person p = person(subscriber);
        if (!in(number, 0, people.size() - 1) || number == subscriber || cut(people.get(number))) {
            return 5;
        }
        Person q = people.get(number);
        if (q.loop == p.loop) {
            return 6;
        }
        return lines.get(q.loop).phase == 0 ? 2 : 5;
    }

    private int dial(int subscriber, int number) {
        Person p = person(subscriber);
        Line l = lines.get(p.loop);
        state(l.phase == 1 && l.first == subscriber);
        save();
        switch (wouldDial(subscriber, number)) {
            case 5:
                phase(l, 5, subscriber, -1, -1);
                told[3]++;
                break;
            case 6:
                phase(l, 6, subscriber, number, -1);
                break;
            default:
                int far = people.get(number).loop;
                phase(l, 2, subscriber, -1, far);
                phase(lines.get(far), 3, number, -1, p.loop);
        }
        return l.phase;
    }

    private int tick(int n) {
        argument(in(n, 1, 200));
        save();
        for (int i = 0; i < n; i++) {
            lines.forEach(l -> l.timer++);
            for (int loop = 0; loop < lines.size(); loop++) {
                turn(loop);
            }
        }
        return (int) lines.stream().filter(l -> l.phase != 0).count();
    }

    private void turn(int loop) {
        Line l = lines.get(loop);
        switch (l.phase) {
            case 1:
                if (l.timer == 12) {
                    phase(l, 5, l.first, -1, -1);
                }
                break;
            case 3:
                if (l.timer == 5 * sounds(people.get(l.first).code).length()) {
                    told[2]++;
                    end(loop);
                }
                break;
            case 7:
                if (l.timer == 4 * bothSounds(l).length()) {
                    told[2]++;
                    phase(l, 0, -1, -1, -1);
                }
                break;
            case 4:
                if (l.caller) {
                    people.get(l.first).meter += l.timer % 6 == 0 ? 1 : 0;
                    if (l.timer >= limit && (locked(loop) || locked(l.far))) {
                        end(loop);
                    }
                }
                break;
            case 8:
                if (l.timer >= limit && locked(loop)) {
                    end(loop);
                }
                break;
            default:
        }
    }

    private boolean locked(int loop) {
        return members(loop).stream().anyMatch(i -> people.get(i).role == Role.LOCKED);
    }

    private static String digits(int code) {
        return Integer.toBinaryString(code + 1).substring(1);
    }

    /** A sign for each tick: 1 short, 2 long, 0 silence. */
    private static String sounds(int code) {
        StringBuilder text = new StringBuilder();
        for (char digit : digits(code).toCharArray()) {
            text.append(digit == '0' ? "1" : "222").append('0');
        }
        return text.append("000").toString();
    }

    private String bothSounds(Line l) {
        return sounds(people.get(l.second).code) + sounds(people.get(l.first).code);
    }

    private int rings(int loop) {
        Line l = line(loop);
        if (l.phase != 3 && l.phase != 7) {
            return 0;
        }
        String text = l.phase == 3 ? sounds(people.get(l.first).code) : bothSounds(l);
        return text.charAt(l.timer % text.length()) - '0';
    }

    private int codeCost(int loop) {
        return members(loop).stream().map(people::get)
                .mapToInt(p -> p.weight * sounds(p.code).length()).sum();
    }

    private List<Integer> codesByLength() {
        List<Integer> codes = new ArrayList<>();
        for (int code = 1; code <= 14; code++) {
            codes.add(code);
        }
        codes.sort(Comparator.comparing(code -> sounds(code).length()));
        return codes;
    }

    private List<Integer> membersByWeight(int loop) {
        List<Integer> members = members(loop);
        members.sort(Comparator.comparing(i -> -people.get(i).weight));
        return members;
    }

    private int bestCodes(int loop) {
        line(loop);
        int cost = 0;
        List<Integer> members = membersByWeight(loop);
        for (int i = 0; i < members.size(); i++) {
            cost += people.get(members.get(i)).weight * sounds(codesByLength().get(i)).length();
        }
        return cost;
    }

    private int assignCodes(int loop) {
        Line l = line(loop);
        state(l.phase != 3 && l.phase != 7);
        save();
        int changed = 0;
        List<Integer> members = membersByWeight(loop);
        for (int i = 0; i < members.size(); i++) {
            Person p = people.get(members.get(i));
            int code = codesByLength().get(i);
            changed += p.code == code ? 0 : 1;
            p.code = code;
        }
        return changed;
    }

    private int fault(int loop, int span, boolean isShort) {
        Line l = line(loop);
        index(in(span, 1, 12));
        state(l.fault == -1);
        save();
        l.fault = span;
        l.isShort = isShort;
        if (in(l.phase, 2, 4)) {
            end(loop);
        } else {
            leave(loop);
        }
        return (int) members(loop).stream().filter(i -> cut(people.get(i))).count();
    }

    private int mend(int loop) {
        Line l = line(loop);
        state(l.fault != -1);
        save();
        int span = l.fault;
        l.fault = -1;
        l.isShort = false;
        boolean any = false;
        for (int i : members(loop)) {
            if (people.get(i).role == Role.CUT) {
                people.get(i).role = Role.LISTENS;
                any = true;
            }
        }
        if (any && l.phase == 3) {
            end(loop);
        } else if (any && (l.phase == 0 || l.phase == 7)) {
            leave(loop);
        }
        return span;
    }

    /** The cost and the best test. */
    private int[] plan(int loop, int from, int to) {
        Line l = line(loop);
        argument(1 <= from && from <= to && to <= 12);
        return search(l.risks, from, to, new int[13][13][]);
    }

    private static int[] search(List<Integer> risks, int from, int to, int[][][] known) {
        if (from == to) {
            return new int[] {0, -1};
        }
        if (known[from][to] == null) {
            int[] best = {Integer.MAX_VALUE, -1};
            for (int k = to - 1; k >= from; k--) {
                int sum = search(risks, from, k, known)[0] + search(risks, k + 1, to, known)[0];
                if (sum <= best[0]) {
                    best = new int[] {sum, k};
                }
            }
            best[0] += risks.subList(from - 1, to).stream().mapToInt(r -> r).sum();
            known[from][to] = best;
        }
        return known[from][to];
    }

    private int testsNeeded(Line l, int from, int to) {
        if (from == to) {
            return 0;
        }
        int k = search(l.risks, from, to, new int[13][13][])[1];
        return 1 + (l.fault <= k ? testsNeeded(l, from, k) : testsNeeded(l, k + 1, to));
    }

    private long digest() {
        List<Long> values = new ArrayList<>();
        values.add((long) lines.size());
        for (int i = 0; i < lines.size(); i++) {
            for (int what = 0; what <= 8; what++) {
                values.add(loop(i, what));
            }
            values.add((long) rings(i));
            values.add((long) codeCost(i));
            lines.get(i).risks.forEach(r -> values.add((long) r));
        }
        values.add((long) people.size());
        for (int i = 0; i < people.size(); i++) {
            for (int what = 0; what <= 7; what++) {
                values.add(subscriber(i, what));
            }
        }
        values.add((long) limit);
        for (int count : told) {
            values.add((long) count);
        }
        values.add((long) saved.size());
        long h = 1857;
        for (long v : values) {
            h = 31 * h + v;
        }
        return h;
    }
}
