import java.util.function.BiFunction;

/**
 * The smallest and the largest argument that is allowed, the one beyond each, and calls that are
 * refused: which exception they throw, and that they changed nothing.
 */
public final class RefusedCallsTest extends Checks {
    /** A call on an object that the check makes. */
    private interface Ask {
        Object of(PetriNet x);
    }

    // Transition 0 is enabled, 1 has too few tokens, 2 is inhibited, and 3 has no space.
    private static final String NET = "net 2 4;tokens 0 3;capacity 1 2;tokens 1 2;in 0 0 1;in 0 1 9;inhibit 1 2 2;out 3 1 1;";
    private static final int PLACES = 2;
    private static final int TRANSITIONS = 4;
    // Arguments beyond every limit of the document; the middle ones are 0 when cut to a byte or a short.
    private static final int[] FAR = {Integer.MIN_VALUE, -65536, -256, -1, 256, 65536, Integer.MAX_VALUE};

    /** An object with something of all that an object can hold: 4 changes, a snapshot, an error, a report, input. */
    private static PetriNet rich() {
        PetriNet x = new PetriNet();
        script(x, NET);
        x.setTokens(0, 5);
        x.saveSnapshot();
        x.fire(0);
        script(x, "net 1 1;?");
        x.writeMarking();
        x.setCapacity(0, 20);
        append(x, "net 1 1;tokens 0 7; ");
        return x;
    }

    private static PetriNet withoutSnapshot() {
        PetriNet x = new PetriNet();
        script(x, NET);
        x.fire(0);
        return x;
    }

    /** All that the calls can bring to light. The object is used up by this. */
    private static String everything(PetriNet x) {
        StringBuilder text = new StringBuilder();
        text.append(x.inputLength()).append(' ').append(errorOf(x)).append(' ').append(bytesOfReport(x, 8)).append('\n');
        for (int left = x.undoCount(); left >= 0; left--) {
            text.append(left).append(": ").append(stateOf(x)).append('\n');
            x.undo();
        }
        text.append(answerOf(x::restoreSnapshot)).append(": ").append(stateOf(x)).append('\n');
        text.append(weightsOf(x)).append('\n');
        return text.append(x.runScript()).append(": ").append(stateOf(x)).toString();
    }

    private static String weightsAfter(PetriNet x, Ask ask) {
        answerOf(() -> ask.of(x));
        return weightsOf(x);
    }

    /** The call throws this, and afterwards the object answers like another that was not asked. */
    private static void refused(String exception, Ask ask) {
        PetriNet x = rich();
        due(exception, () -> ask.of(x));
        due(everything(rich()), () -> everything(x));
        due(weightsOf(rich()), () -> weightsAfter(rich(), ask));
    }

    private static void allowed(Object want, Ask ask) {
        PetriNet x = rich();
        due(want, () -> ask.of(x));
    }

    /** A call with the number of a place: just 0 and 1 are numbers of a place. */
    private static void placeNumbers(BiFunction<PetriNet, Integer, Object> call) {
        for (int far : FAR) {
            refused(OUT_OF_BOUNDS, x -> call.apply(x, far));
        }
        refused(OUT_OF_BOUNDS, x -> call.apply(x, PLACES));
        // The capacity for places and the limit of the class are no limits of this net.
        refused(OUT_OF_BOUNDS, x -> call.apply(x, 7));
    }

    /** A call with the number of a transition: just 0 to 3 are numbers of a transition. */
    private static void transitionNumbers(BiFunction<PetriNet, Integer, Object> call) {
        for (int far : FAR) {
            refused(OUT_OF_BOUNDS, x -> call.apply(x, far));
        }
        refused(OUT_OF_BOUNDS, x -> call.apply(x, TRANSITIONS));
        refused(OUT_OF_BOUNDS, x -> call.apply(x, 9));
    }

    private static void values(String exception, BiFunction<PetriNet, Integer, Object> call, int... beyond) {
        for (int far : FAR) {
            refused(exception, x -> call.apply(x, far));
        }
        for (int value : beyond) {
            refused(exception, x -> call.apply(x, value));
        }
    }

    private static void input() {
        begin(3, "IllegalArgumentException if length is negative or greater than the present length");
        values(ARGUMENT, PetriNet::truncateInput, 21);
        allowed(20, x -> x.truncateInput(20));
        allowed(0, x -> x.truncateInput(0));
        allowed(19, x -> x.truncateInput(19));
        allowed("0 IllegalArgumentException", x -> x.truncateInput(0) + " " + answerOf(() -> x.truncateInput(1)));
    }

    private static void tokens() {
        begin(6, "IndexOutOfBoundsException if place is not the number of a place");
        placeNumbers((x, place) -> x.setTokens(place, 0));
        begin(6, "IllegalArgumentException if tokens is out of range, 0 to its capacity");
        values(ARGUMENT, (x, tokens) -> x.setTokens(0, tokens), 21, 30, 31);
        values(ARGUMENT, (x, tokens) -> x.setTokens(1, tokens), 3);
        allowed("4 0", x -> x.setTokens(0, 0) + " " + x.tokens(0));
        allowed("4 20", x -> x.setTokens(0, 20) + " " + x.tokens(0));
        allowed("2 2", x -> x.setTokens(1, 2) + " " + x.tokens(1));
        begin(6, "of several exceptions the one that is listed first is thrown");
        refused(OUT_OF_BOUNDS, x -> x.setTokens(2, -1));
        refused(OUT_OF_BOUNDS, x -> x.setTokens(-1, 31));
    }

    private static void capacities() {
        begin(7, "IndexOutOfBoundsException if place is not the number of a place");
        placeNumbers((x, place) -> x.setCapacity(place, 30));
        begin(7, "IllegalArgumentException if capacity is out of range, 1 to 30");
        values(ARGUMENT, (x, capacity) -> x.setCapacity(0, capacity), 0, 31);
        allowed("20 30", x -> x.setCapacity(0, 30) + " " + x.capacity(0));
        allowed("4 20 1", x -> x.setTokens(0, 0) + " " + x.setCapacity(0, 1) + " " + x.capacity(0));
        begin(7, "IllegalStateException if the place has more tokens");
        refused(STATE, x -> x.setCapacity(0, 3));
        refused(STATE, x -> x.setCapacity(0, 1));
        refused(STATE, x -> x.setCapacity(1, 1));
        allowed("20 4", x -> x.setCapacity(0, 4) + " " + x.capacity(0));
        begin(7, "of several exceptions the one that is listed first is thrown");
        refused(OUT_OF_BOUNDS, x -> x.setCapacity(2, 0));
        refused(OUT_OF_BOUNDS, x -> x.setCapacity(-1, 31));
        refused(ARGUMENT, x -> x.setCapacity(0, 0));
        refused(ARGUMENT, x -> x.setCapacity(1, -1));
    }

    private static void inputWeights() {
        begin(8, "IndexOutOfBoundsException if place or transition is not valid");
        placeNumbers((x, place) -> x.setInput(place, 0, 1));
        transitionNumbers((x, transition) -> x.setInput(0, transition, 1));
        refused(OUT_OF_BOUNDS, x -> x.setInput(TRANSITIONS - 1, PLACES - 1, 1));
        begin(8, "IllegalArgumentException if weight is out of range, 0 to 9");
        values(ARGUMENT, (x, weight) -> x.setInput(1, 3, weight), 10);
        allowed("1 9 0", x -> x.setInput(0, 0, 9) + " " + x.setInput(0, 0, 0) + " " + x.setInput(0, 0, 1));
        allowed("0 9", x -> x.setInput(1, 3, 9) + " " + x.setInput(1, 3, 0));
        begin(8, "of several exceptions the one that is listed first is thrown");
        refused(OUT_OF_BOUNDS, x -> x.setInput(2, 0, 10));
        refused(OUT_OF_BOUNDS, x -> x.setInput(0, 4, -1));
    }

    private static void outputWeights() {
        begin(9, "IndexOutOfBoundsException if transition or place is not valid");
        placeNumbers((x, place) -> x.setOutput(0, place, 1));
        transitionNumbers((x, transition) -> x.setOutput(transition, 0, 1));
        refused(OUT_OF_BOUNDS, x -> x.setOutput(PLACES - 1, TRANSITIONS - 1, 1));
        begin(9, "IllegalArgumentException if weight is out of range, 0 to 9");
        values(ARGUMENT, (x, weight) -> x.setOutput(3, 1, weight), 10);
        allowed("1 9 0", x -> x.setOutput(3, 1, 9) + " " + x.setOutput(3, 1, 0) + " " + x.setOutput(3, 1, 1));
        allowed("0 9", x -> x.setOutput(0, 0, 9) + " " + x.setOutput(0, 0, 0));
        begin(9, "of several exceptions the one that is listed first is thrown");
        refused(OUT_OF_BOUNDS, x -> x.setOutput(4, 0, 10));
        refused(OUT_OF_BOUNDS, x -> x.setOutput(0, 2, -1));
    }

    private static void inhibitorLimits() {
        begin(10, "IndexOutOfBoundsException if place or transition is not valid");
        placeNumbers((x, place) -> x.setInhibitor(place, 0, 1));
        transitionNumbers((x, transition) -> x.setInhibitor(0, transition, 1));
        refused(OUT_OF_BOUNDS, x -> x.setInhibitor(TRANSITIONS - 1, PLACES - 1, 1));
        begin(10, "IllegalArgumentException if limit is out of range, 0 to 9, 0 for none");
        values(ARGUMENT, (x, limit) -> x.setInhibitor(1, 2, limit), 10);
        allowed("2 9 0", x -> x.setInhibitor(1, 2, 9) + " " + x.setInhibitor(1, 2, 0) + " " + x.setInhibitor(1, 2, 1));
        allowed("0 9", x -> x.setInhibitor(0, 0, 9) + " " + x.setInhibitor(0, 0, 0));
        allowed("2 0", x -> x.setInhibitor(1, 2, 0) + " " + x.whyNotEnabled(2));
        begin(10, "of several exceptions the one that is listed first is thrown");
        refused(OUT_OF_BOUNDS, x -> x.setInhibitor(2, 0, 10));
        refused(OUT_OF_BOUNDS, x -> x.setInhibitor(0, 4, -1));
    }

    private static void firing() {
        begin(11, "IndexOutOfBoundsException if transition is not the number of a transition");
        transitionNumbers(PetriNet::fire);
        begin(11, "IllegalStateException if it is not enabled");
        refused(STATE, x -> x.fire(1));
        refused(STATE, x -> x.fire(2));
        refused(STATE, x -> x.fire(3));
        allowed(2, x -> x.fire(0));
        begin(12, "IllegalArgumentException if number is out of range, 1 to 200");
        values(ARGUMENT, PetriNet::run, 0, 201);
        allowed("1 5", x -> x.run(1) + " " + x.undoCount());
        allowed("4 5", x -> x.run(200) + " " + x.undoCount());
    }

    private static void moving() {
        begin(13, "NoSuchElementException if there is no reachable marking with this number");
        values(NO_ELEMENT, PetriNet::moveToMarking, 5, 149, 150);
        allowed("0 4", x -> x.moveToMarking(0) + " " + x.tokens(0));
        allowed("4 0", x -> x.moveToMarking(4) + " " + x.tokens(0));
        begin(18, "NoSuchElementException if no snapshot was saved");
        PetriNet x = withoutSnapshot();
        due(NO_ELEMENT, x::restoreSnapshot);
        due(everything(withoutSnapshot()), () -> everything(x));
        due(NO_ELEMENT, () -> new PetriNet().restoreSnapshot());
    }

    private static void questionsOfPlaces() {
        begin(23, "IndexOutOfBoundsException if place is not the number of a place");
        placeNumbers(PetriNet::tokens);
        begin(24, "IndexOutOfBoundsException if place is not the number of a place");
        placeNumbers(PetriNet::capacity);
        begin(29, "IndexOutOfBoundsException if place is not the number of a place");
        placeNumbers(PetriNet::consumers);
        begin(45, "IndexOutOfBoundsException if place is not the number of a place");
        placeNumbers(PetriNet::bound);
        begin(48, "IndexOutOfBoundsException if place is not the number of a place");
        placeNumbers(PetriNet::distanceToEmpty);
    }

    private static void questionsOfTransitions() {
        begin(27, "IndexOutOfBoundsException if transition is not the number of a transition");
        transitionNumbers(PetriNet::inputPlaces);
        begin(28, "IndexOutOfBoundsException if transition is not the number of a transition");
        transitionNumbers(PetriNet::outputPlaces);
        begin(30, "IndexOutOfBoundsException if transition is not the number of a transition");
        transitionNumbers(PetriNet::whyNotEnabled);
        begin(31, "IndexOutOfBoundsException if transition is not the number of a transition");
        transitionNumbers(PetriNet::blockingPlace);
        begin(34, "IndexOutOfBoundsException if transition is not the number of a transition");
        transitionNumbers(PetriNet::firings);
        begin(36, "IndexOutOfBoundsException if transition is not the number of a transition");
        transitionNumbers(PetriNet::firesInRow);
        begin(46, "IndexOutOfBoundsException if transition is not the number of a transition");
        transitionNumbers(PetriNet::canFire);
    }

    private static void questionsOfTwo() {
        begin(25, "IndexOutOfBoundsException if transition or place is not valid");
        placeNumbers((x, place) -> x.effect(0, place));
        transitionNumbers((x, transition) -> x.effect(transition, 0));
        refused(OUT_OF_BOUNDS, x -> x.effect(PLACES - 1, TRANSITIONS - 1));
        allowed(1, x -> x.effect(TRANSITIONS - 1, PLACES - 1));
        begin(37, "IndexOutOfBoundsException if a or b is not the number of a transition");
        transitionNumbers((x, a) -> x.areInConflict(a, 0));
        transitionNumbers((x, b) -> x.areInConflict(0, b));
        // Transition 1 is not enabled, and the number beside it is wrong all the same.
        transitionNumbers((x, b) -> x.areInConflict(1, b));
        allowed(false, x -> x.areInConflict(0, 3));
        allowed(false, x -> x.areInConflict(3, 0));
    }

    private static void questionsOfMarkings() {
        begin(40, "IndexOutOfBoundsException if place is not the number of a place");
        placeNumbers((x, place) -> x.markingTokens(0, place));
        begin(40, "NoSuchElementException if there is no reachable marking with this number");
        values(NO_ELEMENT, (x, number) -> x.markingTokens(number, 0), 5, 149, 150);
        allowed("4 0 2", x -> x.markingTokens(0, 0) + " " + x.markingTokens(4, 0) + " " + x.markingTokens(4, 1));
        begin(40, "of several exceptions the one that is listed first is thrown");
        placeNumbers((x, place) -> x.markingTokens(5, place));
        begin(41, "NoSuchElementException if there is no reachable marking with this number");
        values(NO_ELEMENT, PetriNet::markingDistance, 5, 149, 150);
        allowed("0 4", x -> x.markingDistance(0) + " " + x.markingDistance(4));
        begin(42, "NoSuchElementException if there is no reachable marking with this number");
        values(NO_ELEMENT, PetriNet::markingTransition, 5, 149, 150);
        allowed("-1 0", x -> x.markingTransition(0) + " " + x.markingTransition(4));
    }

    private static void vectors() {
        begin(49, "IllegalArgumentException if vector is negative or has a digit other than 0 for a place that does not exist");
        values(ARGUMENT, PetriNet::isPlaceInvariant, 100, 101, 900, 1000, 1000000000, 2000000000);
        allowed("true false", x -> x.isPlaceInvariant(0) + " " + x.isPlaceInvariant(99));
        begin(51, "IllegalArgumentException if vector is negative or has a digit other than 0 for a place that does not exist");
        values(ARGUMENT, PetriNet::weightedTokens, 100, 101, 900, 1000, 1000000000, 2000000000);
        allowed("0 54", x -> x.weightedTokens(0) + " " + x.weightedTokens(99));
        begin(50, "IllegalArgumentException if vector is negative or has a digit other than 0 for a transition that does not exist");
        for (int vector : new int[] {Integer.MIN_VALUE, -65536, -1, 10000, 10001, 90000, 65536, 1000000000, Integer.MAX_VALUE}) {
            refused(ARGUMENT, x -> x.isTransitionInvariant(vector));
        }
        allowed("true false", x -> x.isTransitionInvariant(0) + " " + x.isTransitionInvariant(9999));
    }

    /** Vectors of the smallest and of the largest net. */
    private static void longestVectors() {
        PetriNet small = made("net 1 1;tokens 0 1;");
        PetriNet large = made("net 8 10;tokens 0 30;tokens 7 30;");
        PetriNet nine = made("net 7 9;tokens 0 30;");
        begin(49, "digits of places that do not exist must be 0");
        due("true IllegalArgumentException", () -> small.isPlaceInvariant(9) + " " + answerOf(() -> small.isPlaceInvariant(10)));
        due("true true", () -> large.isPlaceInvariant(99999999) + " " + large.isPlaceInvariant(10000000));
        for (int vector : new int[] {100000000, 999999999, 1000000000, 1099999999, Integer.MAX_VALUE}) {
            due(ARGUMENT, () -> large.isPlaceInvariant(vector));
        }
        due("true IllegalArgumentException",
            () -> nine.isPlaceInvariant(9999999) + " " + answerOf(() -> nine.isPlaceInvariant(10000000)));
        begin(51, "digits of places that do not exist must be 0");
        due("9 IllegalArgumentException", () -> small.weightedTokens(9) + " " + answerOf(() -> small.weightedTokens(10)));
        due("540 270", () -> large.weightedTokens(99999999) + " " + large.weightedTokens(90000000));
        for (int vector : new int[] {100000000, 999999999, 1000000000, 1099999999, Integer.MAX_VALUE}) {
            due(ARGUMENT, () -> large.weightedTokens(vector));
        }
        begin(50, "digits of transitions that do not exist must be 0");
        due("true IllegalArgumentException",
            () -> small.isTransitionInvariant(9) + " " + answerOf(() -> small.isTransitionInvariant(10)));
        due("true true", () -> large.isTransitionInvariant(Integer.MAX_VALUE) + " " + large.isTransitionInvariant(2000000000));
        due(ARGUMENT, () -> large.isTransitionInvariant(Integer.MIN_VALUE));
        due("true IllegalArgumentException",
            () -> nine.isTransitionInvariant(999999999) + " " + answerOf(() -> nine.isTransitionInvariant(1000000000)));
        due(ARGUMENT, () -> nine.isTransitionInvariant(Integer.MAX_VALUE));
    }

    private static void predictions() {
        begin(55, "IndexOutOfBoundsException if place is not the number of a place");
        placeNumbers((x, place) -> x.tokensAfterRun(place, 1));
        begin(55, "IllegalArgumentException if number is out of range, 0 to 200");
        values(ARGUMENT, (x, number) -> x.tokensAfterRun(0, number), 201);
        allowed("4 3 0", x -> x.tokensAfterRun(0, 0) + " " + x.tokensAfterRun(0, 1) + " " + x.tokensAfterRun(0, 200));
        begin(55, "of several exceptions the one that is listed first is thrown");
        refused(OUT_OF_BOUNDS, x -> x.tokensAfterRun(2, -1));
        refused(OUT_OF_BOUNDS, x -> x.tokensAfterRun(-1, 201));
    }

    /** Numbers of a larger net are no numbers of the smaller one that takes its place, and the other way round. */
    private static void smallestAndLargestNet() {
        PetriNet x = made("net 8 10;tokens 7 9;capacity 7 9;in 7 9 3;fire 9;");
        begin(23, "numbers of places are 0 to 7 at most");
        due("6 9 512", () -> x.tokens(7) + " " + x.capacity(7) + " " + x.consumers(7));
        due("6 2 6", () -> x.bound(7) + " " + x.distanceToEmpty(7) + " " + x.markingTokens(0, 7));
        due(OUT_OF_BOUNDS, () -> x.tokens(8));
        due(OUT_OF_BOUNDS, () -> x.setTokens(8, 1));
        due(OUT_OF_BOUNDS, () -> x.setInput(8, 0, 1));
        due(OUT_OF_BOUNDS, () -> x.markingTokens(0, 8));
        begin(34, "numbers of transitions are 0 to 9 at most");
        due("1 128 0", () -> x.firings(9) + " " + x.inputPlaces(9) + " " + x.outputPlaces(9));
        due("0 -1 2 true", () -> x.whyNotEnabled(9) + " " + x.blockingPlace(9) + " " + x.firesInRow(9) + " " + x.canFire(9));
        due(OUT_OF_BOUNDS, () -> x.firings(10));
        due(OUT_OF_BOUNDS, () -> x.fire(10));
        due(OUT_OF_BOUNDS, () -> x.setOutput(10, 7, 1));
        begin(25, "the smallest and the largest effect");
        due("3 0 0", () -> x.setInput(7, 9, 9) + " " + x.setOutput(9, 7, 9) + " " + x.effect(9, 7));
        due("9 -9", () -> x.setOutput(9, 7, 0) + " " + x.effect(9, 7));
        due("9 0 9", () -> x.setInput(7, 9, 0) + " " + x.setOutput(9, 7, 9) + " " + x.effect(9, 7));
        begin(23, "the net of one place and one transition");
        script(x, "net 1 1;");
        due("0 30 0 0", () -> x.tokens(0) + " " + x.capacity(0) + " " + x.firings(0) + " " + x.effect(0, 0));
        due(OUT_OF_BOUNDS, () -> x.tokens(1));
        due(OUT_OF_BOUNDS, () -> x.capacity(1));
        due(OUT_OF_BOUNDS, () -> x.markingTokens(0, 1));
        begin(34, "the net of one place and one transition");
        due(OUT_OF_BOUNDS, () -> x.firings(1));
        due(OUT_OF_BOUNDS, () -> x.canFire(1));
    }

    public static void main(String[] args) {
        input();
        tokens();
        capacities();
        inputWeights();
        outputWeights();
        inhibitorLimits();
        firing();
        moving();
        questionsOfPlaces();
        questionsOfTransitions();
        questionsOfTwo();
        questionsOfMarkings();
        vectors();
        longestVectors();
        predictions();
        smallestAndLargestNet();
        finish();
    }
}
