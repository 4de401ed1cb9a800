import java.util.NoSuchElementException;

/**
 * A simulator of Petri nets: places with tokens and capacities, transitions that consume and
 * produce tokens, inhibitor arcs, runs by a fixed rule, invariants and reachable markings.
 */
public final class PetriNet {
    public static final int NONE = -1;
    public static final int NO_ROOM = -2;
    public static final int ENABLED = 0, TOO_FEW = 1, INHIBITED = 2, NO_SPACE = 3;

    private static final int MAX_PLACES = 8;
    private static final int MAX_TRANSITIONS = 10;
    private static final int MAX_ARCS = MAX_PLACES * MAX_TRANSITIONS;
    private static final int MAX_CAPACITY = 30;
    private static final int MAX_WEIGHT = 9;
    private static final int MAX_RUN = 200;
    private static final int MAX_IN_ROW = 1000;
    private static final int MAX_MARKINGS = 150;
    private static final int MAX_UNDO = 10;
    private static final int MAX_INPUT = 500;
    private static final int MAX_DIGITS = 10;
    // Eight places of two digits, ten transitions of one, and what separates them, need 43 bytes.
    private static final int MAX_REPORT = 64;

    private final Net net;
    private final Net trial;
    private final Net snapshot;
    private boolean hasSnapshot;
    private final History history;
    private final Script script;
    private final Exploration exploration;
    private boolean isExplored;
    private final int[] digits;
    private final byte[] report;
    private int reportSize;

    public PetriNet() {
        net = firstNet();
        trial = new Net();
        snapshot = new Net();
        hasSnapshot = false;
        history = new History();
        script = new Script();
        exploration = new Exploration();
        isExplored = false;
        digits = new int[MAX_DIGITS];
        report = new byte[MAX_REPORT];
        reportSize = 0;
    }

    private static Net firstNet() {
        Net made = new Net();
        made.clear(4, 4);
        made.capacities[3] = 2;
        made.marking[0] = 3;
        made.marking[2] = 1;
        made.inputs[Net.arc(0, 0)] = 1;
        made.outputs[Net.arc(0, 1)] = 1;
        made.inputs[Net.arc(1, 1)] = 1;
        made.inputs[Net.arc(1, 2)] = 1;
        made.outputs[Net.arc(1, 3)] = 1;
        made.inputs[Net.arc(2, 3)] = 1;
        made.outputs[Net.arc(2, 0)] = 1;
        made.outputs[Net.arc(2, 2)] = 1;
        made.inputs[Net.arc(3, 1)] = 2;
        made.outputs[Net.arc(3, 0)] = 2;
        made.limits[Net.arc(3, 3)] = 1;
        made.fireOnce(0);
        made.fireOnce(0);
        return made;
    }

    // ---- input

    public int append(int a, int b, int c, int d, int e) {
        if (script.length > MAX_INPUT - 20) {
            return NO_ROOM;
        }
        script.addFourBytes(a);
        script.addFourBytes(b);
        script.addFourBytes(c);
        script.addFourBytes(d);
        script.addFourBytes(e);
        return script.length;
    }

    public int truncateInput(int length) throws IllegalArgumentException {
        checkRange(length, 0, script.length);
        script.length = length;
        return length;
    }

    public int inputLength() {
        return script.length;
    }

    // ---- changes

    public int runScript() {
        script.execute();
        script.length = 0;
        if (script.errorKind != 0) {
            return NONE;
        }
        beginChange();
        net.copyFrom(script.net);
        return net.sumOfTokens();
    }

    public int setTokens(int place, int tokens) throws IndexOutOfBoundsException, IllegalArgumentException {
        checkPlace(place);
        checkRange(tokens, 0, net.capacities[place]);
        beginChange();
        int previous = net.marking[place];
        net.marking[place] = tokens;
        return previous;
    }

    public int setCapacity(int place, int capacity)
            throws IndexOutOfBoundsException, IllegalArgumentException, IllegalStateException {
        checkPlace(place);
        checkRange(capacity, 1, MAX_CAPACITY);
        if (net.marking[place] > capacity) {
            throw new IllegalStateException("the place has more tokens");
        }
        beginChange();
        int previous = net.capacities[place];
        net.capacities[place] = capacity;
        return previous;
    }

    public int setInput(int place, int transition, int weight)
            throws IndexOutOfBoundsException, IllegalArgumentException {
        checkArc(place, transition, weight);
        beginChange();
        int previous = net.inputs[Net.arc(transition, place)];
        net.inputs[Net.arc(transition, place)] = weight;
        return previous;
    }

    public int setOutput(int transition, int place, int weight)
            throws IndexOutOfBoundsException, IllegalArgumentException {
        checkArc(place, transition, weight);
        beginChange();
        int previous = net.outputs[Net.arc(transition, place)];
        net.outputs[Net.arc(transition, place)] = weight;
        return previous;
    }

    public int setInhibitor(int place, int transition, int limit)
            throws IndexOutOfBoundsException, IllegalArgumentException {
        checkArc(place, transition, limit);
        beginChange();
        int previous = net.limits[Net.arc(transition, place)];
        net.limits[Net.arc(transition, place)] = limit;
        return previous;
    }

    public int fire(int transition) throws IndexOutOfBoundsException, IllegalStateException {
        checkTransition(transition);
        if (!net.allows(transition)) {
            throw new IllegalStateException("the transition is not enabled");
        }
        beginChange();
        net.fireOnce(transition);
        return net.fired[transition];
    }

    public int run(int number) throws IllegalArgumentException {
        checkRange(number, 1, MAX_RUN);
        beginChange();
        return net.advance(number);
    }

    public int moveToMarking(int number) throws NoSuchElementException {
        checkMarking(number, explored().count);
        beginChange();
        net.unpackMarking(exploration.keys[number]);
        return exploration.distances[number];
    }

    public int reverseNet() {
        beginChange();
        net.swapInputsAndOutputs();
        return Integer.bitCount(net.enabledSet());
    }

    // The one place that every change passes after its checks and before it touches the net.
    private void beginChange() {
        history.push(net);
        isExplored = false;
    }

    // ---- undo and snapshot

    public int undo() {
        if (history.count == 0) {
            return NONE;
        }
        history.popInto(net);
        isExplored = false;
        return history.count;
    }

    public int undoCount() {
        return history.count;
    }

    public int saveSnapshot() {
        snapshot.copyFrom(net);
        hasSnapshot = true;
        return snapshot.sumOfTokens();
    }

    public int restoreSnapshot() throws NoSuchElementException {
        if (!hasSnapshot) {
            throw new NoSuchElementException("no snapshot was saved");
        }
        net.copyFrom(snapshot);
        isExplored = false;
        history.forgetAll();
        return net.sumOfTokens();
    }

    // ---- script errors

    public int scriptErrorKind() {
        return script.errorKind;
    }

    public int scriptErrorOffset() {
        return script.errorOffset;
    }

    // ---- the net

    public int placeCount() {
        return net.places;
    }

    public int transitionCount() {
        return net.transitions;
    }

    public int tokens(int place) throws IndexOutOfBoundsException {
        checkPlace(place);
        return net.marking[place];
    }

    public int capacity(int place) throws IndexOutOfBoundsException {
        checkPlace(place);
        return net.capacities[place];
    }

    public int effect(int transition, int place) throws IndexOutOfBoundsException {
        checkTransition(transition);
        checkPlace(place);
        return net.change(transition, place);
    }

    public int totalTokens() {
        return net.sumOfTokens();
    }

    public int inputPlaces(int transition) throws IndexOutOfBoundsException {
        checkTransition(transition);
        return net.placesWithWeight(net.inputs, transition);
    }

    public int outputPlaces(int transition) throws IndexOutOfBoundsException {
        checkTransition(transition);
        return net.placesWithWeight(net.outputs, transition);
    }

    public int consumers(int place) throws IndexOutOfBoundsException {
        checkPlace(place);
        int set = 0;
        for (int t = 0; t < net.transitions; t++) {
            if (net.inputs[Net.arc(t, place)] > 0) {
                set |= 1 << t;
            }
        }
        return set;
    }

    // ---- firing

    public int whyNotEnabled(int transition) throws IndexOutOfBoundsException {
        checkTransition(transition);
        return net.reasonAgainst(transition);
    }

    public int blockingPlace(int transition) throws IndexOutOfBoundsException {
        checkTransition(transition);
        return net.firstBlocker(transition);
    }

    public int enabledTransitions() {
        return net.enabledSet();
    }

    public boolean isDead() {
        return net.enabledSet() == 0;
    }

    public int firings(int transition) throws IndexOutOfBoundsException {
        checkTransition(transition);
        return net.fired[transition];
    }

    public int nextOfRun() {
        return net.nextToFire();
    }

    public int firesInRow(int transition) throws IndexOutOfBoundsException {
        checkTransition(transition);
        trial.copyFrom(net);
        int times = 0;
        while (times < MAX_IN_ROW && trial.allows(transition)) {
            trial.fireOnce(transition);
            times++;
        }
        return times;
    }

    public boolean areInConflict(int a, int b) throws IndexOutOfBoundsException {
        checkTransition(a);
        checkTransition(b);
        if (!net.allows(a) || !net.allows(b)) {
            return false;
        }
        return disables(a, b) || disables(b, a);
    }

    private boolean disables(int first, int second) {
        trial.copyFrom(net);
        trial.fireOnce(first);
        return !trial.allows(second);
    }

    // ---- reachable markings

    public int markingCount() {
        return explored().count;
    }

    public boolean isComplete() {
        return explored().isWhole;
    }

    public int markingTokens(int number, int place) throws IndexOutOfBoundsException, NoSuchElementException {
        checkPlace(place);
        checkMarking(number, explored().count);
        return exploration.tokensIn(number, place);
    }

    public int markingDistance(int number) throws NoSuchElementException {
        checkMarking(number, explored().count);
        return exploration.distances[number];
    }

    public int markingTransition(int number) throws NoSuchElementException {
        checkMarking(number, explored().count);
        return exploration.foundBy[number];
    }

    public int firstDeadMarking() {
        Exploration found = explored();
        for (int number = 0; number < found.count; number++) {
            if (found.enabledSets[number] == 0) {
                return number;
            }
        }
        return NONE;
    }

    public int deadMarkings() {
        Exploration found = explored();
        int dead = 0;
        for (int number = 0; number < found.count; number++) {
            if (found.enabledSets[number] == 0) {
                dead++;
            }
        }
        return dead;
    }

    public int bound(int place) throws IndexOutOfBoundsException {
        checkPlace(place);
        Exploration found = explored();
        int most = 0;
        for (int number = 0; number < found.count; number++) {
            most = Math.max(most, found.tokensIn(number, place));
        }
        return most;
    }

    public boolean canFire(int transition) throws IndexOutOfBoundsException {
        checkTransition(transition);
        Exploration found = explored();
        for (int number = 0; number < found.count; number++) {
            if (found.isEnabledIn(number, transition)) {
                return true;
            }
        }
        return false;
    }

    public boolean returnsHome() {
        Exploration found = explored();
        for (int number = 0; number < found.count; number++) {
            if (found.leadsHome(number)) {
                return true;
            }
        }
        return false;
    }

    public int distanceToEmpty(int place) throws IndexOutOfBoundsException {
        checkPlace(place);
        Exploration found = explored();
        // Markings are numbered by ascending distance, so the first one is the nearest.
        for (int number = 0; number < found.count; number++) {
            if (found.tokensIn(number, place) == 0) {
                return found.distances[number];
            }
        }
        return NONE;
    }

    private Exploration explored() {
        if (!isExplored) {
            exploration.explore(net);
            isExplored = true;
        }
        return exploration;
    }

    // ---- invariants

    public boolean isPlaceInvariant(int vector) throws IllegalArgumentException {
        readVector(vector, net.places);
        return net.keepsWeightedTokens(digits);
    }

    public boolean isTransitionInvariant(int vector) throws IllegalArgumentException {
        readVector(vector, net.transitions);
        return net.keepsMarking(digits);
    }

    public int weightedTokens(int vector) throws IllegalArgumentException {
        readVector(vector, net.places);
        int sum = 0;
        for (int p = 0; p < net.places; p++) {
            sum += digits[p] * net.marking[p];
        }
        return sum;
    }

    public int simpleInvariants() {
        int found = 0;
        for (int set = 1; set < 1 << net.places; set++) {
            if (isSimpleInvariant(set)) {
                found++;
            }
        }
        return found;
    }

    public int smallestInvariant() {
        // Sets have the same order as the decimal vectors whose digits are their bits.
        for (int set = 1; set < 1 << net.places; set++) {
            if (isSimpleInvariant(set)) {
                return vectorOf(set);
            }
        }
        return NONE;
    }

    public int coveredPlaces() {
        int covered = 0;
        for (int set = 1; set < 1 << net.places; set++) {
            if (isSimpleInvariant(set)) {
                covered |= set;
            }
        }
        return covered;
    }

    private void readVector(int vector, int count) throws IllegalArgumentException {
        if (vector < 0) {
            throw new IllegalArgumentException("a vector is not negative");
        }
        int rest = vector;
        for (int i = 0; i < MAX_DIGITS; i++) {
            digits[i] = rest % 10;
            rest = rest / 10;
            if (i >= count && digits[i] != 0) {
                throw new IllegalArgumentException("the vector has a digit too many");
            }
        }
    }

    private boolean isSimpleInvariant(int set) {
        for (int p = 0; p < MAX_PLACES; p++) {
            digits[p] = set >> p & 1;
        }
        return net.keepsWeightedTokens(digits);
    }

    private static int vectorOf(int set) {
        int vector = 0;
        for (int p = MAX_PLACES - 1; p >= 0; p--) {
            vector = vector * 10 + (set >> p & 1);
        }
        return vector;
    }

    // ---- predictions

    public int tokensAfterRun(int place, int number) throws IndexOutOfBoundsException, IllegalArgumentException {
        checkPlace(place);
        checkRange(number, 0, MAX_RUN);
        trial.copyFrom(net);
        trial.advance(number);
        return trial.marking[place];
    }

    public int runLength() {
        trial.copyFrom(net);
        int length = trial.advance(MAX_RUN + 1);
        return length > MAX_RUN ? NONE : length;
    }

    // ---- ratios and checks

    public double load() {
        int room = 0;
        for (int p = 0; p < net.places; p++) {
            room += net.capacities[p];
        }
        return room > 0 ? (double) net.sumOfTokens() / (double) room : 0.0;
    }

    public float enabledShare() {
        int enabled = Integer.bitCount(net.enabledSet());
        return net.transitions > 0 ? (float) enabled / (float) net.transitions : 0.0f;
    }

    public int violations() {
        Exploration found = explored();
        int broken = net.placesOutOfRange();
        for (int set = 1; set < 1 << net.places; set++) {
            if (isSimpleInvariant(set) && !found.keepsTokensOf(set)) {
                broken++;
            }
        }
        return broken;
    }

    // ---- report

    public int writeMarking() {
        reportSize = 0;
        for (int p = 0; p < net.places; p++) {
            if (p > 0) {
                put(',');
            }
            putNumber(net.marking[p]);
        }
        put(' ');
        putEnabled(net.enabledSet());
        return reportSize;
    }

    public int reportByte(int index) {
        return index >= 0 && index < reportSize ? report[index] : NONE;
    }

    private void putEnabled(int enabled) {
        if (enabled == 0) {
            put('-');
            return;
        }
        boolean isFirst = true;
        for (int t = 0; t < net.transitions; t++) {
            if ((enabled >> t & 1) == 1) {
                if (!isFirst) {
                    put(',');
                }
                putNumber(t);
                isFirst = false;
            }
        }
    }

    // No number of a report has more than two digits.
    private void putNumber(int number) {
        if (number >= 10) {
            put('0' + number / 10);
        }
        put('0' + number % 10);
    }

    private void put(int sign) {
        if (reportSize < MAX_REPORT) {
            report[reportSize] = (byte) sign;
            reportSize++;
        }
    }

    // ---- checks of arguments

    private void checkPlace(int place) throws IndexOutOfBoundsException {
        if (place < 0 || place >= net.places) {
            throw new IndexOutOfBoundsException("there is no such place");
        }
    }

    private void checkTransition(int transition) throws IndexOutOfBoundsException {
        if (transition < 0 || transition >= net.transitions) {
            throw new IndexOutOfBoundsException("there is no such transition");
        }
    }

    private void checkArc(int place, int transition, int weight)
            throws IndexOutOfBoundsException, IllegalArgumentException {
        checkPlace(place);
        checkTransition(transition);
        checkRange(weight, 0, MAX_WEIGHT);
    }

    private static void checkMarking(int number, int count) throws NoSuchElementException {
        if (number < 0 || number >= count) {
            throw new NoSuchElementException("there is no such reachable marking");
        }
    }

    private static void checkRange(int value, int low, int high) throws IllegalArgumentException {
        if (value < low || value > high) {
            throw new IllegalArgumentException("the value is out of its range");
        }
    }

    /** A net with its marking and its firings: all that undo and the snapshot restore. */
    private static final class Net {
        // Five bits hold 0 to 30 tokens, so a whole marking fits into one long.
        static final int BITS = 5;
        static final int BIT_MASK = 31;

        int places;
        int transitions;
        final int[] marking;
        final int[] capacities;
        int[] inputs;
        int[] outputs;
        final int[] limits;
        final int[] fired;

        Net() {
            places = 1;
            transitions = 1;
            marking = new int[MAX_PLACES];
            capacities = new int[MAX_PLACES];
            inputs = new int[MAX_ARCS];
            outputs = new int[MAX_ARCS];
            limits = new int[MAX_ARCS];
            fired = new int[MAX_TRANSITIONS];
        }

        /** The index in inputs, outputs and limits. */
        static int arc(int transition, int place) {
            return transition * MAX_PLACES + place;
        }

        void clear(int newPlaces, int newTransitions) {
            places = newPlaces;
            transitions = newTransitions;
            for (int p = 0; p < MAX_PLACES; p++) {
                marking[p] = 0;
                capacities[p] = MAX_CAPACITY;
            }
            for (int i = 0; i < MAX_ARCS; i++) {
                inputs[i] = 0;
                outputs[i] = 0;
                limits[i] = 0;
            }
            for (int t = 0; t < MAX_TRANSITIONS; t++) {
                fired[t] = 0;
            }
        }

        void copyFrom(Net other) {
            places = other.places;
            transitions = other.transitions;
            System.arraycopy(other.marking, 0, marking, 0, MAX_PLACES);
            System.arraycopy(other.capacities, 0, capacities, 0, MAX_PLACES);
            System.arraycopy(other.inputs, 0, inputs, 0, MAX_ARCS);
            System.arraycopy(other.outputs, 0, outputs, 0, MAX_ARCS);
            System.arraycopy(other.limits, 0, limits, 0, MAX_ARCS);
            System.arraycopy(other.fired, 0, fired, 0, MAX_TRANSITIONS);
        }

        void swapInputsAndOutputs() {
            int[] kept = inputs;
            inputs = outputs;
            outputs = kept;
        }

        int change(int transition, int place) {
            int i = transition * MAX_PLACES + place;
            return outputs[i] - inputs[i];
        }

        int sumOfTokens() {
            int sum = 0;
            for (int p = 0; p < places; p++) {
                sum += marking[p];
            }
            return sum;
        }

        int placesWithWeight(int[] weights, int transition) {
            int set = 0;
            for (int p = 0; p < places; p++) {
                if (weights[arc(transition, p)] > 0) {
                    set |= 1 << p;
                }
            }
            return set;
        }

        int placesOutOfRange() {
            int wrong = 0;
            for (int p = 0; p < places; p++) {
                if (marking[p] < 0 || marking[p] > capacities[p]) {
                    wrong++;
                }
            }
            return wrong;
        }

        /** The first reason for which this place alone forbids the transition, or ENABLED. */
        int reasonAt(int transition, int place) {
            int i = transition * MAX_PLACES + place;
            int tokens = marking[place];
            if (tokens < inputs[i]) {
                return TOO_FEW;
            }
            if (limits[i] != 0 && tokens >= limits[i]) {
                return INHIBITED;
            }
            return tokens - inputs[i] + outputs[i] > capacities[place] ? NO_SPACE : ENABLED;
        }

        boolean allows(int transition) {
            for (int p = 0; p < places; p++) {
                if (reasonAt(transition, p) != ENABLED) {
                    return false;
                }
            }
            return true;
        }

        // The reasons are numbered in the order in which they count, so the smallest one wins.
        int reasonAgainst(int transition) {
            int first = ENABLED;
            for (int p = 0; p < places; p++) {
                int reason = reasonAt(transition, p);
                if (reason != ENABLED && (first == ENABLED || reason < first)) {
                    first = reason;
                }
            }
            return first;
        }

        int firstBlocker(int transition) {
            int reason = reasonAgainst(transition);
            if (reason == ENABLED) {
                return NONE;
            }
            for (int p = 0; p < places; p++) {
                if (reasonAt(transition, p) == reason) {
                    return p;
                }
            }
            return NONE;
        }

        int enabledSet() {
            int set = 0;
            for (int t = 0; t < transitions; t++) {
                if (allows(t)) {
                    set |= 1 << t;
                }
            }
            return set;
        }

        void fireOnce(int transition) {
            for (int p = 0; p < places; p++) {
                marking[p] += change(transition, p);
            }
            fired[transition]++;
        }

        int nextToFire() {
            int best = NONE;
            for (int t = 0; t < transitions; t++) {
                if ((best == NONE || fired[t] < fired[best]) && allows(t)) {
                    best = t;
                }
            }
            return best;
        }

        /** Fires at most this many transitions by the rule of runs and tells how many it fired. */
        int advance(int number) {
            for (int steps = 0; steps < number; steps++) {
                int next = nextToFire();
                if (next == NONE) {
                    return steps;
                }
                fireOnce(next);
            }
            return number;
        }

        boolean keepsWeightedTokens(int[] weights) {
            for (int t = 0; t < transitions; t++) {
                int sum = 0;
                for (int p = 0; p < places; p++) {
                    sum += weights[p] * change(t, p);
                }
                if (sum != 0) {
                    return false;
                }
            }
            return true;
        }

        boolean keepsMarking(int[] times) {
            for (int p = 0; p < places; p++) {
                int sum = 0;
                for (int t = 0; t < transitions; t++) {
                    sum += times[t] * change(t, p);
                }
                if (sum != 0) {
                    return false;
                }
            }
            return true;
        }

        long packMarking() {
            long key = 0;
            for (int p = 0; p < places; p++) {
                key += (long) marking[p] << (BITS * p);
            }
            return key;
        }

        /** What a firing of the transition adds to the packed marking. */
        long packChange(int transition) {
            long sum = 0;
            for (int p = 0; p < places; p++) {
                sum += (long) change(transition, p) << (BITS * p);
            }
            return sum;
        }

        static int unpackTokens(long key, int place) {
            return (int) (key >>> (BITS * place)) & BIT_MASK;
        }

        void unpackMarking(long key) {
            for (int p = 0; p < places; p++) {
                marking[p] = unpackTokens(key, p);
            }
        }
    }

    /** The nets before the latest changes, in rows that are used again in a ring. */
    private static final class History {
        final Net[] rows;
        int next;
        int count;

        History() {
            rows = new Net[MAX_UNDO];
            for (int i = 0; i < MAX_UNDO; i++) {
                rows[i] = new Net();
            }
            next = 0;
            count = 0;
        }

        void push(Net net) {
            rows[next].copyFrom(net);
            next = next + 1 < MAX_UNDO ? next + 1 : 0;
            count = Math.min(count + 1, MAX_UNDO);
        }

        void popInto(Net net) {
            next = next > 0 ? next - 1 : MAX_UNDO - 1;
            count--;
            net.copyFrom(rows[next]);
        }

        void forgetAll() {
            count = 0;
        }
    }

    /** The markings that can be reached from a net's present one, by a breadth-first search. */
    private static final class Exploration {
        // More than three slots for each marking keep the ways to a free one short.
        static final int SLOTS = 512;
        static final int SLOT_SHIFT = 55;
        static final long SPREAD = 0x9E3779B97F4A7C15L;

        final long[] keys;
        final int[] distances;
        final int[] foundBy;
        final int[] enabledSets;
        final long[] changes;
        // Each slot holds 1 plus the number of a marking, or 0 if it is free.
        final int[] slots;
        final Net walker;
        int count;
        boolean isWhole;

        Exploration() {
            keys = new long[MAX_MARKINGS];
            distances = new int[MAX_MARKINGS];
            foundBy = new int[MAX_MARKINGS];
            enabledSets = new int[MAX_MARKINGS];
            changes = new long[MAX_TRANSITIONS];
            slots = new int[SLOTS];
            walker = new Net();
            count = 0;
            isWhole = true;
        }

        void explore(Net net) {
            start(net);
            visit(walker.packMarking(), NONE, NONE);
            for (int number = 0; number < MAX_MARKINGS && number < count && isWhole; number++) {
                for (int t = 0; t < walker.transitions; t++) {
                    if (isEnabledIn(number, t)) {
                        visit(keys[number] + changes[t], number, t);
                    }
                }
            }
        }

        private void start(Net net) {
            walker.copyFrom(net);
            count = 0;
            isWhole = true;
            for (int i = 0; i < SLOTS; i++) {
                slots[i] = 0;
            }
            for (int t = 0; t < walker.transitions; t++) {
                changes[t] = walker.packChange(t);
            }
        }

        private void visit(long key, int from, int transition) {
            int slot = slotOf(key);
            if (slots[slot] != 0) {
                return;
            }
            if (count >= MAX_MARKINGS) {
                isWhole = false;
                return;
            }
            keys[count] = key;
            distances[count] = from == NONE ? 0 : distances[from] + 1;
            foundBy[count] = transition;
            walker.unpackMarking(key);
            enabledSets[count] = walker.enabledSet();
            count++;
            slots[slot] = count;
        }

        /** The slot that holds the marking, or the free one where it belongs. */
        private int slotOf(long key) {
            int slot = (int) ((key * SPREAD) >>> SLOT_SHIFT);
            for (int probes = 0; probes < SLOTS; probes++) {
                if (slots[slot] == 0 || keys[slots[slot] - 1] == key) {
                    return slot;
                }
                slot = slot + 1 < SLOTS ? slot + 1 : 0;
            }
            return slot;
        }

        int tokensIn(int number, int place) {
            return Net.unpackTokens(keys[number], place);
        }

        boolean isEnabledIn(int number, int transition) {
            return (enabledSets[number] >> transition & 1) == 1;
        }

        boolean leadsHome(int number) {
            for (int t = 0; t < walker.transitions; t++) {
                if (isEnabledIn(number, t) && keys[number] + changes[t] == keys[0]) {
                    return true;
                }
            }
            return false;
        }

        boolean keepsTokensOf(int set) {
            int first = tokensOf(0, set);
            for (int number = 1; number < count; number++) {
                if (tokensOf(number, set) != first) {
                    return false;
                }
            }
            return true;
        }

        private int tokensOf(int number, int set) {
            int sum = 0;
            for (int p = 0; p < walker.places; p++) {
                if ((set >> p & 1) == 1) {
                    sum += tokensIn(number, p);
                }
            }
            return sum;
        }
    }

    /** The input buffer, and what executes it as a script on a net of its own. */
    private static final class Script {
        static final int END = 0, WORD = 1, NUMBER = 2, SEMICOLON = 3, BAD = 4;
        static final int TOKENS = 1, CAPACITY = 2, IN = 3, OUT = 4, INHIBIT = 5, FIRE = 6, RUN = 7;
        static final int NOT_ALLOWED = 1, OUT_OF_RANGE = 2, NOT_ENABLED = 3;
        static final int MAX_NUMBER_DIGITS = 3;

        final byte[] text;
        int length;
        final Net net;
        int errorKind;
        int errorOffset;
        private int tokenKind;
        private int tokenStart;
        private int tokenEnd;

        Script() {
            text = new byte[MAX_INPUT];
            length = 0;
            net = new Net();
            errorKind = 0;
            errorOffset = NONE;
            tokenKind = END;
            tokenStart = 0;
            tokenEnd = 0;
        }

        void addFourBytes(int bytes) {
            for (int shift = 24; shift >= 0 && length < MAX_INPUT; shift -= 8) {
                text[length] = (byte) (bytes >> shift);
                length++;
            }
        }

        void execute() {
            errorKind = 0;
            errorOffset = NONE;
            tokenEnd = 0;
            readToken();
            boolean isGood = readHeader() && readSemicolon();
            // A command has at least one byte, so there are fewer commands than bytes.
            for (int left = length; left > 0 && isGood && tokenKind != END; left--) {
                isGood = readCommand() && readSemicolon();
            }
        }

        private boolean readHeader() {
            if (!isWord("net")) {
                return fail(NOT_ALLOWED);
            }
            readToken();
            int places = readNumber(1, MAX_PLACES);
            int transitions = places == NONE ? NONE : readNumber(1, MAX_TRANSITIONS);
            if (transitions == NONE) {
                return false;
            }
            net.clear(places, transitions);
            return true;
        }

        private boolean readCommand() {
            int command = commandOfToken();
            if (command == NONE) {
                return fail(NOT_ALLOWED);
            }
            readToken();
            switch (command) {
                case TOKENS:
                    return readTokens();
                case CAPACITY:
                    return readCapacity();
                case IN:
                    return readArcFromPlace(net.inputs);
                case OUT:
                    return readArcFromTransition(net.outputs);
                case INHIBIT:
                    return readArcFromPlace(net.limits);
                case FIRE:
                    return readFire();
                default:
                    int number = readNumber(1, MAX_RUN);
                    net.advance(number);
                    return number != NONE;
            }
        }

        private int commandOfToken() {
            if (isWord("tokens")) {
                return TOKENS;
            }
            if (isWord("capacity")) {
                return CAPACITY;
            }
            if (isWord("in")) {
                return IN;
            }
            if (isWord("out")) {
                return OUT;
            }
            if (isWord("inhibit")) {
                return INHIBIT;
            }
            if (isWord("fire")) {
                return FIRE;
            }
            return isWord("run") ? RUN : NONE;
        }

        private boolean readTokens() {
            int place = readNumber(0, net.places - 1);
            int number = place == NONE ? NONE : readNumber(0, net.capacities[place]);
            if (number == NONE) {
                return false;
            }
            net.marking[place] = number;
            return true;
        }

        private boolean readCapacity() {
            int place = readNumber(0, net.places - 1);
            int number = place == NONE ? NONE : readNumber(Math.max(1, net.marking[place]), MAX_CAPACITY);
            if (number == NONE) {
                return false;
            }
            net.capacities[place] = number;
            return true;
        }

        private boolean readArcFromPlace(int[] weights) {
            int place = readNumber(0, net.places - 1);
            int transition = place == NONE ? NONE : readNumber(0, net.transitions - 1);
            int weight = transition == NONE ? NONE : readNumber(0, MAX_WEIGHT);
            if (weight == NONE) {
                return false;
            }
            weights[Net.arc(transition, place)] = weight;
            return true;
        }

        private boolean readArcFromTransition(int[] weights) {
            int transition = readNumber(0, net.transitions - 1);
            int place = transition == NONE ? NONE : readNumber(0, net.places - 1);
            int weight = place == NONE ? NONE : readNumber(0, MAX_WEIGHT);
            if (weight == NONE) {
                return false;
            }
            weights[Net.arc(transition, place)] = weight;
            return true;
        }

        private boolean readFire() {
            int offset = tokenStart;
            int transition = readNumber(0, net.transitions - 1);
            if (transition == NONE) {
                return false;
            }
            // The error belongs to the transition, though the token after it is already read.
            if (!net.allows(transition)) {
                errorKind = NOT_ENABLED;
                errorOffset = offset;
                return false;
            }
            net.fireOnce(transition);
            return true;
        }

        private boolean readSemicolon() {
            if (tokenKind != SEMICOLON) {
                return fail(NOT_ALLOWED);
            }
            readToken();
            return true;
        }

        /** The number that the token is, or NONE after an error. */
        private int readNumber(int low, int high) {
            if (tokenKind != NUMBER) {
                fail(NOT_ALLOWED);
                return NONE;
            }
            int number = 0;
            for (int i = tokenStart; i < tokenEnd; i++) {
                number = number * 10 + text[i] - '0';
            }
            if (number < low || number > high) {
                fail(OUT_OF_RANGE);
                return NONE;
            }
            readToken();
            return number;
        }

        private boolean fail(int kind) {
            errorKind = kind;
            errorOffset = tokenStart;
            return false;
        }

        private boolean isWord(String word) {
            if (tokenKind != WORD || tokenEnd - tokenStart != word.length()) {
                return false;
            }
            for (int i = 0; i < word.length(); i++) {
                if (text[tokenStart + i] != word.charAt(i)) {
                    return false;
                }
            }
            return true;
        }

        private void readToken() {
            while (tokenEnd < length && (text[tokenEnd] == 32 || text[tokenEnd] == 10)) {
                tokenEnd++;
            }
            tokenStart = tokenEnd;
            if (tokenStart >= length) {
                tokenKind = END;
            } else if (isLetter(text[tokenStart])) {
                while (tokenEnd < length && isLetter(text[tokenEnd])) {
                    tokenEnd++;
                }
                tokenKind = WORD;
            } else if (isDigit(text[tokenStart])) {
                while (tokenEnd < length && isDigit(text[tokenEnd])) {
                    tokenEnd++;
                }
                tokenKind = tokenEnd - tokenStart > MAX_NUMBER_DIGITS ? BAD : NUMBER;
            } else {
                tokenKind = text[tokenStart] == ';' ? SEMICOLON : BAD;
                tokenEnd = tokenStart + 1;
            }
        }

        private static boolean isLetter(int sign) {
            return sign >= 'a' && sign <= 'z';
        }

        private static boolean isDigit(int sign) {
            return sign >= '0' && sign <= '9';
        }
    }
}
