/**
 * An exchange for party lines. The face only looks at what it is given, saves the state before an
 * undoable call and asks the classes inside; what a call does to the loops is done by Exchange.
 */
public final class PartyLines {
    public static final int NONE = -1;

    private static final int FIRST_LOOPS = 2;
    private static final int MOST_LOOPS = 5;
    private static final int MOST_SUBSCRIBERS = 16;
    private static final int SPANS = 12;
    private static final int MOST_SAVED = 4;

    private static final int FREE = 0;
    private static final int SEIZED = 1;
    private static final int CALLING = 2;
    private static final int RINGING = 3;
    private static final int TALKING = 4;
    private static final int TONE = 5;
    private static final int HOLDING = 6;
    private static final int REVERTING = 7;
    private static final int TALKING_IN_LOOP = 8;

    private static final int ANSWERED = 0;
    private static final int ANSWERED_IN_LOOP = 1;
    private static final int LOST = 2;
    private static final int DIALED_TO_TONE = 3;
    private static final int LISTENED = 4;
    private static final int LOCKED_OUT = 5;
    private static final int COUNTS = 6;

    private static final int CODE = 0;
    private static final int PRIVACY = 1;
    private static final int WEIGHT = 2;
    private static final int SUBSCRIBER_VALUES = 8;
    private static final int LOOP_VALUES = 9;

    private static final int MOST_WEIGHT = 99;
    private static final int MOST_RISK = 9;
    private static final int MOST_TICKS = 200;
    private static final int LEAST_LIMIT = 10;
    private static final int MOST_LIMIT = 200;
    private static final int FIRST_LIMIT = 60;

    private static final int TICKS_TO_DIAL = 12;
    private static final int TICKS_OF_A_UNIT = 6;
    private static final int ROUNDS_OF_RINGING = 5;
    private static final int ROUNDS_OF_REVERTING = 4;

    private static final long FIRST_HASH = 1857;

    private final State state = new State();
    private final Exchange exchange = new Exchange(state);
    private final History history = new History();
    private final SpanTests spanTests = new SpanTests();

    public PartyLines() {
    }

    public int addLoop() throws IllegalStateException {
        if (state.loopCount >= MOST_LOOPS) {
            throw new IllegalStateException("there are 5 loops");
        }
        history.save(state);
        return state.openLoop();
    }

    public int addSubscriber(int loop, int position, int code)
            throws IndexOutOfBoundsException, IllegalArgumentException, IllegalStateException {
        Loop home = knownLoop(loop);
        if (!isSpan(position) || !Codes.isCode(code)) {
            throw new IllegalArgumentException("position or code is out of range");
        }
        if (state.subscriberCount >= MOST_SUBSCRIBERS || state.hasCode(home, code, NONE)) {
            throw new IllegalStateException("no room, or the code is taken");
        }
        history.save(state);
        return state.enroll(home, position, code);
    }

    public int set(int subscriber, int what, int value)
            throws IndexOutOfBoundsException, IllegalArgumentException, IllegalStateException {
        Subscriber changed = knownSubscriber(subscriber);
        if (!isSettable(what, value)) {
            throw new IllegalArgumentException("what or value is out of range");
        }
        if (what == CODE && !mayTakeCode(changed, value)) {
            throw new IllegalStateException("the code is taken, or codes of the loop are rung");
        }
        history.save(state);
        int before = subscriberValue(changed, what);
        if (what == CODE) {
            changed.code = value;
        } else if (what == PRIVACY) {
            changed.isPrivate = value == 1;
        } else {
            changed.weight = value;
        }
        return before;
    }

    public int loops() {
        return state.loopCount;
    }

    public int subscribers() {
        return state.subscriberCount;
    }

    public int subscriber(int subscriber, int what)
            throws IndexOutOfBoundsException, IllegalArgumentException {
        Subscriber asked = knownSubscriber(subscriber);
        if (what < 0 || what >= SUBSCRIBER_VALUES) {
            throw new IllegalArgumentException("what is out of range");
        }
        return subscriberValue(asked, what);
    }

    public int loop(int loop, int what) throws IndexOutOfBoundsException, IllegalArgumentException {
        Loop asked = knownLoop(loop);
        if (what < 0 || what >= LOOP_VALUES) {
            throw new IllegalArgumentException("what is out of range");
        }
        return loopValue(asked, what);
    }

    public int lift(int subscriber) throws IndexOutOfBoundsException, IllegalStateException {
        Subscriber lifting = knownSubscriber(subscriber);
        if (lifting.isOffHook) {
            throw new IllegalStateException("the receiver is off the hook");
        }
        history.save(state);
        exchange.liftReceiver(lifting);
        return phaseOfLoopOf(lifting);
    }

    public int hang(int subscriber) throws IndexOutOfBoundsException, IllegalStateException {
        Subscriber hanging = knownSubscriber(subscriber);
        if (!hanging.isOffHook) {
            throw new IllegalStateException("the receiver is on the hook");
        }
        history.save(state);
        exchange.hangUp(hanging);
        return phaseOfLoopOf(hanging);
    }

    public int dial(int subscriber, int number)
            throws IndexOutOfBoundsException, IllegalStateException {
        Subscriber dialing = knownSubscriber(subscriber);
        Loop own = state.loopAt(dialing.home);
        if (own == null || own.phase != SEIZED || own.first != dialing.number) {
            throw new IllegalStateException("it is not the first party of a seized loop");
        }
        history.save(state);
        exchange.dialNumber(own, dialing, number);
        return own.phase;
    }

    public int tick(int n) throws IllegalArgumentException {
        if (n < 1 || n > MOST_TICKS) {
            throw new IllegalArgumentException("n is out of range");
        }
        history.save(state);
        for (int i = 0; i < n; i++) {
            exchange.passOneTick();
        }
        return state.loopsInUse();
    }

    public int setLimit(int limit) throws IllegalArgumentException {
        if (limit < LEAST_LIMIT || limit > MOST_LIMIT) {
            throw new IllegalArgumentException("limit is out of range");
        }
        history.save(state);
        int before = state.limit;
        state.limit = limit;
        return before;
    }

    public int rings(int loop) throws IndexOutOfBoundsException {
        return exchange.soundOf(knownLoop(loop));
    }

    public int wouldDial(int subscriber, int number) throws IndexOutOfBoundsException {
        return exchange.phaseByDialing(knownSubscriber(subscriber), number);
    }

    public int told(int what) throws IllegalArgumentException {
        if (what < 0 || what >= COUNTS) {
            throw new IllegalArgumentException("what is out of range");
        }
        return state.counts[what];
    }

    public int codeLength(int code) throws IllegalArgumentException {
        if (!Codes.isCode(code)) {
            throw new IllegalArgumentException("code is out of range");
        }
        return Codes.lengthOf(code);
    }

    public int codeRing(int code, int k) throws IllegalArgumentException {
        if (!Codes.isCode(code)) {
            throw new IllegalArgumentException("code is out of range");
        }
        if (k < 0 || k >= Codes.ringCount(code)) {
            return NONE;
        }
        return Codes.isLong(code, k) ? 1 : 0;
    }

    public int codeCost(int loop) throws IndexOutOfBoundsException {
        return state.costOfCodes(knownLoop(loop));
    }

    public int bestCodes(int loop) throws IndexOutOfBoundsException {
        return state.leastCostOfCodes(knownLoop(loop));
    }

    public int assignCodes(int loop) throws IndexOutOfBoundsException, IllegalStateException {
        Loop changed = knownLoop(loop);
        if (changed.isRung()) {
            throw new IllegalStateException("codes of the loop are rung");
        }
        history.save(state);
        return state.giveBestCodes(changed);
    }

    public int fault(int loop, int span, boolean isShort)
            throws IndexOutOfBoundsException, IllegalStateException {
        Loop hit = knownLoop(loop);
        if (!isSpan(span)) {
            throw new IndexOutOfBoundsException("no such span");
        }
        if (hit.hasFault()) {
            throw new IllegalStateException("the loop has a fault");
        }
        history.save(state);
        exchange.breakSpan(hit, span, isShort);
        return state.countCutOff(hit);
    }

    public int mend(int loop) throws IndexOutOfBoundsException, IllegalStateException {
        Loop mended = knownLoop(loop);
        if (!mended.hasFault()) {
            throw new IllegalStateException("the loop has no fault");
        }
        history.save(state);
        int span = mended.faultSpan;
        exchange.mendSpan(mended);
        return span;
    }

    public boolean isCut(int subscriber) throws IndexOutOfBoundsException {
        return state.isCutOff(knownSubscriber(subscriber));
    }

    public int setRisk(int loop, int span, int risk)
            throws IndexOutOfBoundsException, IllegalArgumentException {
        Loop changed = knownLoop(loop);
        if (!isSpan(span)) {
            throw new IndexOutOfBoundsException("no such span");
        }
        if (risk < 1 || risk > MOST_RISK) {
            throw new IllegalArgumentException("risk is out of range");
        }
        history.save(state);
        int before = changed.risks[span];
        changed.risks[span] = risk;
        return before;
    }

    public boolean test(int loop, int span)
            throws IndexOutOfBoundsException, IllegalArgumentException, IllegalStateException {
        Loop tested = knownLoop(loop);
        if (span < 1 || span >= SPANS) {
            throw new IllegalArgumentException("span is out of range");
        }
        if (!tested.hasFault()) {
            throw new IllegalStateException("the loop has no fault");
        }
        return tested.faultSpan <= span;
    }

    public int testCost(int loop, int from, int to)
            throws IndexOutOfBoundsException, IllegalArgumentException {
        planTests(loop, from, to);
        return spanTests.cost[from][to];
    }

    public int bestTest(int loop, int from, int to)
            throws IndexOutOfBoundsException, IllegalArgumentException {
        planTests(loop, from, to);
        return spanTests.best[from][to];
    }

    public int testsNeeded(int loop) throws IndexOutOfBoundsException, IllegalStateException {
        Loop tested = knownLoop(loop);
        if (!tested.hasFault()) {
            throw new IllegalStateException("the loop has no fault");
        }
        spanTests.plan(tested.risks, 1, SPANS);
        return spanTests.countUntilFound(tested.faultSpan);
    }

    public int undo() throws IllegalStateException {
        if (history.count == 0) {
            throw new IllegalStateException("no state is saved");
        }
        history.restore(state);
        return history.count;
    }

    public long digest() {
        long hash = mix(FIRST_HASH, state.loopCount);
        for (int i = 0; i < MOST_LOOPS; i++) {
            Loop loop = state.loopAt(i);
            if (loop != null) {
                hash = mixLoop(hash, loop);
            }
        }
        hash = mix(hash, state.subscriberCount);
        for (int i = 0; i < MOST_SUBSCRIBERS; i++) {
            Subscriber subscriber = state.subscriberAt(i);
            if (subscriber != null) {
                hash = mixSubscriber(hash, subscriber);
            }
        }
        hash = mix(hash, state.limit);
        for (int what = 0; what < COUNTS; what++) {
            hash = mix(hash, state.counts[what]);
        }
        return mix(hash, history.count);
    }

    private Loop knownLoop(int number) {
        Loop loop = state.loopAt(number);
        if (loop == null) {
            throw new IndexOutOfBoundsException("no such loop");
        }
        return loop;
    }

    private Subscriber knownSubscriber(int number) {
        Subscriber subscriber = state.subscriberAt(number);
        if (subscriber == null) {
            throw new IndexOutOfBoundsException("no such subscriber");
        }
        return subscriber;
    }

    private static boolean isSpan(int number) {
        return number >= 1 && number <= SPANS;
    }

    private static boolean isSettable(int what, int value) {
        if (what == CODE) {
            return Codes.isCode(value);
        }
        if (what == PRIVACY) {
            return value == 0 || value == 1;
        }
        return what == WEIGHT && value >= 0 && value <= MOST_WEIGHT;
    }

    private boolean mayTakeCode(Subscriber subscriber, int code) {
        Loop loop = state.loopAt(subscriber.home);
        return loop != null && !loop.isRung() && !state.hasCode(loop, code, subscriber.number);
    }

    private void planTests(int loop, int from, int to) {
        Loop tested = knownLoop(loop);
        if (from < 1 || from > to || to > SPANS) {
            throw new IllegalArgumentException("not 1 <= from <= to <= 12");
        }
        spanTests.plan(tested.risks, from, to);
    }

    private int phaseOfLoopOf(Subscriber subscriber) {
        Loop loop = state.loopAt(subscriber.home);
        return loop == null ? FREE : loop.phase;
    }

    private int subscriberValue(Subscriber subscriber, int what) {
        switch (what) {
            case CODE: return subscriber.code;
            case PRIVACY: return subscriber.isPrivate ? 1 : 0;
            case WEIGHT: return subscriber.weight;
            case 3: return subscriber.home;
            case 4: return subscriber.position;
            case 5: return subscriber.isOffHook ? 1 : 0;
            case 6: return state.standingOf(subscriber);
            default: return subscriber.meter;
        }
    }

    private int loopValue(Loop loop, int what) {
        switch (what) {
            case 0: return loop.phase;
            case 1: return loop.timer;
            case 2: return loop.first;
            case 3: return loop.second;
            case 4: return loop.otherEnd;
            case 5: return loop.isCaller ? 1 : 0;
            case 6: return loop.faultSpan;
            case 7: return loop.isShort ? 1 : 0;
            default: return state.countMembers(loop);
        }
    }

    private static long mix(long hash, long value) {
        return 31 * hash + value;
    }

    private long mixLoop(long start, Loop loop) {
        long hash = start;
        for (int what = 0; what < LOOP_VALUES; what++) {
            hash = mix(hash, loopValue(loop, what));
        }
        hash = mix(hash, exchange.soundOf(loop));
        hash = mix(hash, state.costOfCodes(loop));
        for (int span = 1; span <= SPANS; span++) {
            hash = mix(hash, loop.risks[span]);
        }
        return hash;
    }

    private long mixSubscriber(long start, Subscriber subscriber) {
        long hash = start;
        for (int what = 0; what < SUBSCRIBER_VALUES; what++) {
            hash = mix(hash, subscriberValue(subscriber, what));
        }
        return hash;
    }

    /** A loop; its parties and its other end are kept by number, so that a copy stands alone. */
    private static final class Loop {
        final int number;
        int phase;
        int timer;
        int first;
        int second;
        int otherEnd;
        boolean isCaller;
        int faultSpan;
        boolean isShort;
        // Element 0 is not used: spans are numbered from 1.
        final int[] risks = new int[SPANS + 1];

        Loop(int number) {
            this.number = number;
        }

        void begin() {
            comeTo(FREE);
            clearFault();
            for (int span = 1; span <= SPANS; span++) {
                risks[span] = 1;
            }
        }

        /** Keeps the first party, and forgets what the new phase does not have. */
        void comeTo(int newPhase) {
            phase = newPhase;
            timer = 0;
            isCaller = false;
            if (newPhase == FREE) {
                first = NONE;
            }
            if (newPhase < HOLDING) {
                second = NONE;
            }
            if (newPhase < CALLING || newPhase > TALKING) {
                otherEnd = NONE;
            }
        }

        void comeToWith(int newPhase, int firstParty) {
            first = firstParty;
            comeTo(newPhase);
        }

        boolean isRung() {
            return phase == RINGING || phase == REVERTING;
        }

        boolean hasFault() {
            return faultSpan != NONE;
        }

        void clearFault() {
            faultSpan = NONE;
            isShort = false;
        }

        boolean cutsOff(Subscriber member) {
            return hasFault() && (isShort || member.position >= faultSpan);
        }

        void copyFrom(Loop other) {
            phase = other.phase;
            timer = other.timer;
            first = other.first;
            second = other.second;
            otherEnd = other.otherEnd;
            isCaller = other.isCaller;
            faultSpan = other.faultSpan;
            isShort = other.isShort;
            for (int span = 1; span <= SPANS; span++) {
                risks[span] = other.risks[span];
            }
        }
    }

    /**
     * A subscriber. Only being locked out is kept: who is a party follows from its loop, and
     * whoever else is off the hook and not cut off listens.
     */
    private static final class Subscriber {
        final int number;
        int home;
        int position;
        int code;
        boolean isPrivate;
        int weight;
        boolean isOffHook;
        boolean isLockedOut;
        int meter;

        Subscriber(int number) {
            this.number = number;
        }

        void begin(int loop, int newPosition, int newCode) {
            home = loop;
            position = newPosition;
            code = newCode;
            isPrivate = false;
            weight = 1;
            isOffHook = false;
            isLockedOut = false;
            meter = 0;
        }

        boolean comesBefore(Subscriber other) {
            return weight > other.weight || (weight == other.weight && number < other.number);
        }

        void copyFrom(Subscriber other) {
            home = other.home;
            position = other.position;
            code = other.code;
            isPrivate = other.isPrivate;
            weight = other.weight;
            isOffHook = other.isOffHook;
            isLockedOut = other.isLockedOut;
            meter = other.meter;
        }
    }

    /** All that undo() restores. Its rows are made once, and used again when something is added. */
    private static final class State {
        final Loop[] loopRow = new Loop[MOST_LOOPS];
        final Subscriber[] subscriberRow = new Subscriber[MOST_SUBSCRIBERS];
        final int[] counts = new int[COUNTS];
        int loopCount = FIRST_LOOPS;
        int subscriberCount = 0;
        int limit = FIRST_LIMIT;

        State() {
            for (int i = 0; i < MOST_LOOPS; i++) {
                Loop loop = new Loop(i);
                loop.begin();
                loopRow[i] = loop;
            }
            for (int i = 0; i < MOST_SUBSCRIBERS; i++) {
                subscriberRow[i] = new Subscriber(i);
            }
        }

        Loop loopAt(int number) {
            return number >= 0 && number < loopCount && number < MOST_LOOPS
                    ? loopRow[number] : null;
        }

        Subscriber subscriberAt(int number) {
            return number >= 0 && number < subscriberCount && number < MOST_SUBSCRIBERS
                    ? subscriberRow[number] : null;
        }

        Subscriber memberAt(Loop loop, int number) {
            Subscriber subscriber = subscriberAt(number);
            return subscriber != null && subscriber.home == loop.number ? subscriber : null;
        }

        int openLoop() {
            int number = loopCount;
            loopCount++;
            Loop loop = loopAt(number);
            if (loop != null) {
                loop.begin();
            }
            return number;
        }

        int enroll(Loop home, int position, int code) {
            int number = subscriberCount;
            subscriberCount++;
            Subscriber subscriber = subscriberAt(number);
            if (subscriber != null) {
                subscriber.begin(home.number, position, code);
            }
            return number;
        }

        boolean hasCode(Loop loop, int code, int exceptSubscriber) {
            for (int i = 0; i < MOST_SUBSCRIBERS; i++) {
                Subscriber member = memberAt(loop, i);
                if (member != null && member.code == code && i != exceptSubscriber) {
                    return true;
                }
            }
            return false;
        }

        int countMembers(Loop loop) {
            int members = 0;
            for (int i = 0; i < MOST_SUBSCRIBERS; i++) {
                if (memberAt(loop, i) != null) {
                    members++;
                }
            }
            return members;
        }

        int loopsInUse() {
            int inUse = 0;
            for (int i = 0; i < MOST_LOOPS; i++) {
                Loop loop = loopAt(i);
                if (loop != null && loop.phase != FREE) {
                    inUse++;
                }
            }
            return inUse;
        }

        boolean isCutOff(Subscriber subscriber) {
            Loop loop = loopAt(subscriber.home);
            return loop != null && loop.cutsOff(subscriber);
        }

        int countCutOff(Loop loop) {
            int cutOff = 0;
            for (int i = 0; i < MOST_SUBSCRIBERS; i++) {
                Subscriber member = memberAt(loop, i);
                if (member != null && loop.cutsOff(member)) {
                    cutOff++;
                }
            }
            return cutOff;
        }

        /** The number that the face tells: on the hook, cut off, party, listening, locked out. */
        int standingOf(Subscriber subscriber) {
            if (!subscriber.isOffHook) {
                return 0;
            }
            if (isCutOff(subscriber)) {
                return 1;
            }
            if (isParty(subscriber)) {
                return 2;
            }
            return subscriber.isLockedOut ? 4 : 3;
        }

        /** While the first party is holding, the second one at most listens. */
        boolean isParty(Subscriber subscriber) {
            Loop loop = loopAt(subscriber.home);
            if (loop == null || !subscriber.isOffHook || loop.cutsOff(subscriber)) {
                return false;
            }
            return subscriber.number == loop.first
                    || (loop.phase == TALKING_IN_LOOP && subscriber.number == loop.second);
        }

        int costOfCodes(Loop loop) {
            int cost = 0;
            for (int i = 0; i < MOST_SUBSCRIBERS; i++) {
                Subscriber member = memberAt(loop, i);
                if (member != null) {
                    cost += member.weight * Codes.lengthOf(member.code);
                }
            }
            return cost;
        }

        int leastCostOfCodes(Loop loop) {
            int cost = 0;
            for (int i = 0; i < MOST_SUBSCRIBERS; i++) {
                Subscriber member = memberAt(loop, i);
                if (member != null) {
                    cost += member.weight * Codes.lengthOf(bestCodeOf(loop, member));
                }
            }
            return cost;
        }

        int giveBestCodes(Loop loop) {
            int changed = 0;
            for (int i = 0; i < MOST_SUBSCRIBERS; i++) {
                Subscriber member = memberAt(loop, i);
                if (member != null) {
                    int code = bestCodeOf(loop, member);
                    changed += member.code == code ? 0 : 1;
                    member.code = code;
                }
            }
            return changed;
        }

        private int bestCodeOf(Loop loop, Subscriber subscriber) {
            int rank = 0;
            for (int i = 0; i < MOST_SUBSCRIBERS; i++) {
                Subscriber member = memberAt(loop, i);
                if (member != null && member.comesBefore(subscriber)) {
                    rank++;
                }
            }
            return Codes.byLength(rank);
        }

        /** Rows beyond the counts are not copied: they begin anew when something is added. */
        void copyFrom(State other) {
            loopCount = other.loopCount;
            subscriberCount = other.subscriberCount;
            limit = other.limit;
            for (int i = 0; i < COUNTS; i++) {
                counts[i] = other.counts[i];
            }
            for (int i = 0; i < MOST_LOOPS; i++) {
                Loop loop = loopAt(i);
                Loop original = other.loopAt(i);
                if (loop != null && original != null) {
                    loop.copyFrom(original);
                }
            }
            for (int i = 0; i < MOST_SUBSCRIBERS; i++) {
                Subscriber subscriber = subscriberAt(i);
                Subscriber original = other.subscriberAt(i);
                if (subscriber != null && original != null) {
                    subscriber.copyFrom(original);
                }
            }
        }
    }

    /** The saved states, the oldest first. */
    private static final class History {
        private final State[] saved = new State[MOST_SAVED];
        int count = 0;

        History() {
            for (int i = 0; i < MOST_SAVED; i++) {
                saved[i] = new State();
            }
        }

        void save(State state) {
            if (count >= MOST_SAVED) {
                dropOldest();
            }
            State next = savedAt(count);
            if (next != null) {
                next.copyFrom(state);
                count++;
            }
        }

        /** The oldest one's rows go to the end, where they are filled anew. */
        private void dropOldest() {
            State oldest = saved[0];
            for (int i = 1; i < MOST_SAVED; i++) {
                saved[i - 1] = saved[i];
            }
            saved[MOST_SAVED - 1] = oldest;
            count = MOST_SAVED - 1;
        }

        void restore(State state) {
            State latest = savedAt(count - 1);
            if (latest != null) {
                state.copyFrom(latest);
                count--;
            }
        }

        private State savedAt(int place) {
            return place >= 0 && place < MOST_SAVED ? saved[place] : null;
        }
    }

    /** What receivers, numbers, ticks and faults bring about in the state. */
    private static final class Exchange {
        private final State state;

        Exchange(State state) {
            this.state = state;
        }

        void liftReceiver(Subscriber subscriber) {
            subscriber.isOffHook = true;
            Loop loop = state.loopAt(subscriber.home);
            if (loop == null || loop.cutsOff(subscriber)) {
                return;
            }
            if (loop.phase == FREE) {
                loop.comeToWith(SEIZED, subscriber.number);
            } else if (loop.phase == RINGING) {
                answerCall(loop, subscriber);
            } else if (loop.phase == REVERTING) {
                answerInLoop(loop, subscriber);
            } else if (loop.phase != TALKING_IN_LOOP || loop.first != subscriber.number) {
                comeUpon(loop, subscriber);
            }
        }

        private void answerCall(Loop loop, Subscriber subscriber) {
            loop.comeToWith(TALKING, subscriber.number);
            Loop calling = state.loopAt(loop.otherEnd);
            if (calling != null) {
                calling.comeTo(TALKING);
                calling.isCaller = true;
            }
            state.counts[ANSWERED]++;
        }

        private void answerInLoop(Loop loop, Subscriber subscriber) {
            if (loop.first == subscriber.number) {
                loop.comeTo(SEIZED);
                return;
            }
            loop.comeTo(TALKING_IN_LOOP);
            loop.second = subscriber.number;
            state.counts[ANSWERED_IN_LOOP]++;
        }

        private void comeUpon(Loop loop, Subscriber subscriber) {
            if (isPrivateTalk(loop)) {
                subscriber.isLockedOut = true;
                state.counts[LOCKED_OUT]++;
            } else {
                state.counts[LISTENED]++;
            }
        }

        private boolean isPrivateTalk(Loop loop) {
            if (loop.phase != TALKING && loop.phase != TALKING_IN_LOOP) {
                return false;
            }
            return wantsPrivacy(loop.first) || wantsPrivacy(loop.second);
        }

        private boolean wantsPrivacy(int number) {
            Subscriber party = state.subscriberAt(number);
            return party != null && party.isPrivate;
        }

        void hangUp(Subscriber subscriber) {
            boolean wasParty = state.isParty(subscriber);
            subscriber.isOffHook = false;
            subscriber.isLockedOut = false;
            Loop loop = state.loopAt(subscriber.home);
            if (loop == null || !wasParty) {
                return;
            }
            if (loop.phase == HOLDING && lowestOffHook(loop) == NONE) {
                loop.comeTo(REVERTING);
            } else {
                endCall(loop);
            }
        }

        /** Without another end, this is the same as leaving the loop. */
        private void endCall(Loop loop) {
            Loop far = state.loopAt(loop.otherEnd);
            if (far != null) {
                far.comeTo(far.phase == RINGING ? FREE : TONE);
            }
            leave(loop);
        }

        private void leave(Loop loop) {
            for (int i = 0; i < MOST_SUBSCRIBERS; i++) {
                Subscriber member = state.memberAt(loop, i);
                if (member != null) {
                    member.isLockedOut = false;
                }
            }
            int lowest = lowestOffHook(loop);
            loop.comeToWith(lowest == NONE ? FREE : TONE, lowest);
        }

        /** The lowest subscriber that is off the hook and not cut off. */
        private int lowestOffHook(Loop loop) {
            for (int i = 0; i < MOST_SUBSCRIBERS; i++) {
                Subscriber member = state.memberAt(loop, i);
                if (member != null && member.isOffHook && !loop.cutsOff(member)) {
                    return i;
                }
            }
            return NONE;
        }

        int phaseByDialing(Subscriber dialing, int number) {
            Subscriber dialed = state.subscriberAt(number);
            if (dialed == null || number == dialing.number || state.isCutOff(dialed)) {
                return TONE;
            }
            if (dialed.home == dialing.home) {
                return HOLDING;
            }
            Loop far = state.loopAt(dialed.home);
            return far != null && far.phase == FREE ? CALLING : TONE;
        }

        void dialNumber(Loop own, Subscriber dialing, int number) {
            int phase = phaseByDialing(dialing, number);
            own.comeTo(phase);
            if (phase == TONE) {
                state.counts[DIALED_TO_TONE]++;
            } else if (phase == HOLDING) {
                own.second = number;
            } else {
                ringFrom(own, number);
            }
        }

        private void ringFrom(Loop own, int number) {
            Subscriber dialed = state.subscriberAt(number);
            Loop far = dialed == null ? null : state.loopAt(dialed.home);
            if (far != null) {
                far.comeToWith(RINGING, number);
                far.otherEnd = own.number;
                own.otherEnd = far.number;
            }
        }

        /** All timers go on before the first turn, as a turn may set the timer of another to 0. */
        void passOneTick() {
            for (int i = 0; i < MOST_LOOPS; i++) {
                Loop loop = state.loopAt(i);
                if (loop != null) {
                    loop.timer++;
                }
            }
            for (int i = 0; i < MOST_LOOPS; i++) {
                Loop loop = state.loopAt(i);
                if (loop != null) {
                    takeTurn(loop);
                }
            }
        }

        /**
         * A call between two loops ends in the turn of one of them: who is rung, or the caller.
         * Nobody but who is cut off is off the hook in a loop that is rung, so ending frees it.
         */
        private void takeTurn(Loop loop) {
            if (loop.phase == SEIZED && loop.timer == TICKS_TO_DIAL) {
                loop.comeTo(TONE);
            } else if (loop.isRung() && isLost(loop)) {
                state.counts[LOST]++;
                endCall(loop);
            } else if (loop.isCaller || loop.phase == TALKING_IN_LOOP) {
                countUnits(loop);
                if (isOverLimit(loop)) {
                    endCall(loop);
                }
            }
        }

        private boolean isLost(Loop loop) {
            int rounds = loop.phase == RINGING ? ROUNDS_OF_RINGING : ROUNDS_OF_REVERTING;
            return loop.timer == rounds * ticksOfRound(loop);
        }

        private void countUnits(Loop loop) {
            Subscriber payer = state.subscriberAt(loop.first);
            if (payer != null && loop.isCaller && loop.timer % TICKS_OF_A_UNIT == 0) {
                payer.meter++;
            }
        }

        private boolean isOverLimit(Loop loop) {
            if (loop.timer < state.limit) {
                return false;
            }
            Loop far = state.loopAt(loop.otherEnd);
            return locksSomeoneOut(loop) || (far != null && locksSomeoneOut(far));
        }

        private boolean locksSomeoneOut(Loop loop) {
            for (int i = 0; i < MOST_SUBSCRIBERS; i++) {
                Subscriber member = state.memberAt(loop, i);
                if (member != null && member.isLockedOut) {
                    return true;
                }
            }
            return false;
        }

        void breakSpan(Loop loop, int span, boolean isShort) {
            loop.faultSpan = span;
            loop.isShort = isShort;
            endCall(loop);
        }

        /** In the other phases whoever comes back listens: it is no party and not locked out. */
        void mendSpan(Loop loop) {
            boolean someoneComesBack = hasCutOffReceiver(loop);
            loop.clearFault();
            if (someoneComesBack && (loop.phase == FREE || loop.isRung())) {
                endCall(loop);
            }
        }

        private boolean hasCutOffReceiver(Loop loop) {
            for (int i = 0; i < MOST_SUBSCRIBERS; i++) {
                Subscriber member = state.memberAt(loop, i);
                if (member != null && member.isOffHook && loop.cutsOff(member)) {
                    return true;
                }
            }
            return false;
        }

        /** The second party is there only where both codes are rung. */
        private int ticksOfRound(Loop loop) {
            return ticksOfCode(loop.second) + ticksOfCode(loop.first);
        }

        private int ticksOfCode(int number) {
            Subscriber rung = state.subscriberAt(number);
            return rung == null ? 0 : Codes.lengthOf(rung.code);
        }

        int soundOf(Loop loop) {
            int round = loop.isRung() ? ticksOfRound(loop) : 0;
            if (round <= 0) {
                return Codes.SILENCE;
            }
            int tick = loop.timer % round;
            int lead = ticksOfCode(loop.second);
            Subscriber rung = state.subscriberAt(tick < lead ? loop.second : loop.first);
            if (rung == null) {
                return Codes.SILENCE;
            }
            return Codes.soundAt(rung.code, tick < lead ? tick : tick - lead);
        }
    }

    /** The ringing codes, which are the same for all loops. */
    private static final class Codes {
        static final int SILENCE = 0;
        static final int SHORT_SOUND = 1;
        static final int LONG_SOUND = 2;

        private static final int MOST_CODE = 14;
        private static final int MOST_RINGS = 3;
        private static final int SHORT_TICKS = 1;
        private static final int LONG_TICKS = 3;
        private static final int SILENCE_BETWEEN = 1;
        private static final int SILENCE_BEHIND = 4;

        // Written out because the lengths never change: by length, equal ones by number.
        private static final int[] BY_LENGTH = {1, 2, 3, 4, 5, 7, 6, 8, 9, 11, 10, 12, 13, 14};

        static boolean isCode(int code) {
            return code >= 1 && code <= MOST_CODE;
        }

        static int ringCount(int code) {
            int rings = 0;
            while (rings < MOST_RINGS && (code + 1) >> (rings + 1) != 0) {
                rings++;
            }
            return rings;
        }

        static boolean isLong(int code, int ring) {
            int digitsBehind = ringCount(code) - 1 - ring;
            return ((code + 1) >> digitsBehind & 1) == 1;
        }

        static int lengthOf(int code) {
            int rings = ringCount(code);
            int length = (rings - 1) * SILENCE_BETWEEN + SILENCE_BEHIND;
            for (int digit = 0; digit < rings; digit++) {
                length += ((code + 1) >> digit & 1) == 1 ? LONG_TICKS : SHORT_TICKS;
            }
            return length;
        }

        static int soundAt(int code, int tick) {
            int rings = ringCount(code);
            int start = 0;
            for (int ring = 0; ring < rings; ring++) {
                boolean longRing = isLong(code, ring);
                int end = start + (longRing ? LONG_TICKS : SHORT_TICKS);
                if (tick >= start && tick < end) {
                    return longRing ? LONG_SOUND : SHORT_SOUND;
                }
                start = end + SILENCE_BETWEEN;
            }
            return SILENCE;
        }

        /** A loop has at most as many subscribers as there are codes, so each rank has one. */
        static int byLength(int rank) {
            return rank >= 0 && rank < BY_LENGTH.length ? BY_LENGTH[rank] : MOST_CODE;
        }
    }

    /** The best order of tests; its tables are made once and filled anew for each question. */
    private static final class SpanTests {
        final int[][] cost = new int[SPANS + 1][SPANS + 1];
        final int[][] best = new int[SPANS + 1][SPANS + 1];

        /** Shorter runs of spans come first, since the cost of a run rests on those inside it. */
        void plan(int[] risks, int from, int to) {
            for (int more = 0; more <= to - from; more++) {
                for (int low = from; low + more <= to; low++) {
                    planRun(risks, low, low + more);
                }
            }
        }

        private void planRun(int[] risks, int low, int high) {
            int least = 0;
            int where = NONE;
            int risk = risks[high];
            for (int k = low; k < high; k++) {
                int sum = cost[low][k] + cost[k + 1][high];
                if (where == NONE || sum < least) {
                    least = sum;
                    where = k;
                }
                risk += risks[k];
            }
            cost[low][high] = where == NONE ? 0 : risk + least;
            best[low][high] = where;
        }

        int countUntilFound(int span) {
            int low = 1;
            int high = SPANS;
            int tests = 0;
            while (tests < SPANS && low < high) {
                int k = best[low][high];
                if (k < low || k >= high) {
                    return tests;
                }
                if (span <= k) {
                    high = k;
                } else {
                    low = k + 1;
                }
                tests++;
            }
            return tests;
        }
    }
}
