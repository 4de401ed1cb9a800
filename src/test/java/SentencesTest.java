import java.io.IOException;
import java.nio.file.Files;
import java.nio.file.Path;
import java.util.ArrayList;
import java.util.LinkedHashSet;
import java.util.List;
import java.util.Set;
import java.util.function.IntFunction;

/**
 * The document from its first line to its last: for each sentence that says what a call answers,
 * what would fail if it were broken. At the end the sentences are compared with those of
 * ../shared/DOC.md, so that none is left out.
 */
public final class SentencesTest extends Checks {
    private static final Path DOCUMENT = Path.of("..", "shared", "DOC.md");
    // The sentences that stand ahead of the promises and behind them have no promise of their own.
    private static final int NO_PROMISE = 0;

    private static final String FIRST_SCRIPT = "net 4 4; capacity 3 2; tokens 0 3; tokens 2 1; in 0 0 1; out 0 1 1; "
        + "in 1 1 1; in 2 1 1; out 1 3 1; in 3 2 1; out 2 0 1; out 2 2 1; in 1 3 2; out 3 0 2; inhibit 3 3 1; "
        + "fire 0; fire 0;";
    // Two tokens of place 0, each of which moves to place 1 or to place 2; six markings.
    private static final String TREE = "net 3 2;tokens 0 2;in 0 0 1;out 0 1 1;in 0 1 1;out 1 2 1;";
    // Place 2 and transition 3 are just beyond this net.
    private static final String NARROW = "net 2 3;tokens 0 4;in 0 0 1;";
    private static final int[] NO_PLACE = {-1, 2, 7, 8, Integer.MIN_VALUE, Integer.MAX_VALUE};
    private static final int[] NO_TRANSITION = {-1, 3, 9, 10, Integer.MIN_VALUE, Integer.MAX_VALUE};

    private static final Set<String> cited = new LinkedHashSet<>();
    private static String latest = "";

    /** A sentence that stands in no promise; what follows is the part of it that the promise leans on. */
    private static void term(int promise, String words) {
        cite(NO_PROMISE, words);
        begin(promise, words);
    }

    /** A sentence of this promise. */
    private static void says(int promise, String words) {
        cite(promise, words);
        begin(promise, words);
    }

    /** A sentence that says nothing of an answer. */
    private static void saysNothing(String words) {
        cite(NO_PROMISE, words);
        check = 1;
    }

    private static void cite(int section, String words) {
        seeThatLatestIsChecked();
        latest = section + ": " + words;
        cited.add(latest);
    }

    private static void seeThatLatestIsChecked() {
        if (check == 0 && !latest.isEmpty()) {
            wrong++;
            System.out.println("nothing is checked of " + latest);
        }
    }

    private static void refuses(String exception, IntFunction<Object> call, int... numbers) {
        for (int number : numbers) {
            due(exception, () -> call.apply(number));
        }
    }

    private static String markingOf(PetriNet x) {
        return markingOf(x, 0);
    }

    private static String markingOf(PetriNet x, int number) {
        StringBuilder text = new StringBuilder();
        for (int p = 0; p < x.placeCount(); p++) {
            text.append(p == 0 ? "" : ",").append(x.markingTokens(number, p));
        }
        return text.toString();
    }

    private static String firingsOf(PetriNet x) {
        StringBuilder text = new StringBuilder();
        for (int t = 0; t < x.transitionCount(); t++) {
            text.append(t == 0 ? "" : ",").append(x.firings(t));
        }
        return text.toString();
    }

    private static void whatItIs() {
        saysNothing("A simulator of Petri nets: places with tokens and capacities, transitions that consume and produce tokens, "
            + "inhibitor arcs, runs by a fixed rule, place and transition invariants, and an exploration of the reachable markings.");
        term(6, "An object is used for at most 512 calls after it has been made; what later calls answer is free.");
        PetriNet x = new PetriNet();
        int previous = 1;
        for (int call = 1; call <= 512; call += 2) {
            final int tokens = call % 31;
            final int before = previous;
            due(before, () -> x.setTokens(0, tokens));
            due(tokens, () -> x.tokens(0));
            previous = tokens;
        }
    }

    private static void termsOfNets() {
        String range = "There are 1 to 8 places and 1 to 10 transitions, both numbered from 0.";
        PetriNet small = made("net 1 1;");
        PetriNet large = made("net 8 10;tokens 7 3;fire 9;");
        term(21, range);
        due("1 8", () -> small.placeCount() + " " + large.placeCount());
        due("0 0 3", () -> small.tokens(0) + " " + large.tokens(0) + " " + large.tokens(7));
        refuses(OUT_OF_BOUNDS, small::tokens, -1, 1);
        refuses(OUT_OF_BOUNDS, large::tokens, -1, 8);
        error("2 at 4", "net 0 1;");
        error("2 at 4", "net 9 1;");
        term(22, range);
        due("1 10", () -> small.transitionCount() + " " + large.transitionCount());
        due("0 0 1", () -> small.firings(0) + " " + large.firings(0) + " " + large.firings(9));
        refuses(OUT_OF_BOUNDS, small::firings, -1, 1);
        refuses(OUT_OF_BOUNDS, large::firings, -1, 10);
        error("2 at 6", "net 1 0;");
        error("2 at 6", "net 1 11;");
        largestNet(range);
        String amounts = "A place has a capacity from 1 to 30 and a number of tokens from 0 to its capacity.";
        term(7, amounts);
        due("30 1 30", () -> small.setCapacity(0, 1) + " " + small.setCapacity(0, 30) + " " + small.capacity(0));
        refuses(ARGUMENT, capacity -> small.setCapacity(0, capacity), 0, 31);
        term(6, amounts);
        due("0 30 0", () -> small.setTokens(0, 30) + " " + small.setTokens(0, 0) + " " + small.tokens(0));
        refuses(ARGUMENT, tokens -> small.setTokens(0, tokens), -1, 31);
        small.setCapacity(0, 4);
        due("0 4", () -> small.setTokens(0, 4) + " " + small.tokens(0));
        refuses(ARGUMENT, tokens -> small.setTokens(0, tokens), -1, 5);
        String weights = "Between a place and a transition there is an input weight, an output weight and an inhibitor limit, "
            + "each from 0 to 9.";
        PetriNet x = made("net 2 2;in 1 0 1;out 0 1 2;inhibit 1 0 3;");
        term(8, weights);
        due("1 9 0", () -> x.setInput(1, 0, 9) + " " + x.setInput(1, 0, 0) + " " + x.setInput(1, 0, 4));
        refuses(ARGUMENT, weight -> x.setInput(1, 0, weight), -1, 10);
        term(9, weights);
        due("2 9 0", () -> x.setOutput(0, 1, 9) + " " + x.setOutput(0, 1, 0) + " " + x.setOutput(0, 1, 5));
        refuses(ARGUMENT, weight -> x.setOutput(0, 1, weight), -1, 10);
        term(10, weights);
        due("3 9 0", () -> x.setInhibitor(1, 0, 9) + " " + x.setInhibitor(1, 0, 0) + " " + x.setInhibitor(1, 0, 6));
        refuses(ARGUMENT, limit -> x.setInhibitor(1, 0, limit), -1, 10);
        due("0 0 0, 4 5 6, 0 0 0, 0 0 0, ", () -> weightsOf(x));
        term(60, "The marking is the sequence of the numbers of tokens of all places.");
        due("5,0,17 0", () -> report(made("net 3 1;tokens 0 5;tokens 2 17;")));
    }

    /** All that goes through all places or all transitions, where there are 8 and 10 of them. */
    private static void largestNet(String range) {
        PetriNet x = made("net 8 10;tokens 7 3;in 7 9 1;inhibit 7 8 3;out 9 0 1;capacity 7 3;");
        term(30, range);
        due("0 2", () -> x.whyNotEnabled(9) + " " + x.whyNotEnabled(8));
        term(31, range);
        due("-1 7", () -> x.blockingPlace(9) + " " + x.blockingPlace(8));
        term(32, range);
        due(1023 - 256, x::enabledTransitions);
        term(38, range);
        due("4 true 9", () -> x.markingCount() + " " + x.isComplete() + " " + x.markingTransition(1));
        term(47, range);
        due("true 3 0", () -> x.returnsHome() + " " + x.bound(7) + " " + x.distanceToEmpty(0));
        term(49, range);
        due("true false", () -> x.isPlaceInvariant(99999999) + " " + x.isPlaceInvariant(90000000));
        term(50, range);
        due("true false", () -> x.isTransitionInvariant(111111111) + " " + x.isTransitionInvariant(1111111111));
        term(51, range);
        due(27, () -> x.weightedTokens(99999999));
        term(52, range);
        due("127 10 255", () -> x.simpleInvariants() + " " + x.smallestInvariant() + " " + x.coveredPlaces());
        term(60, range);
        due("0,0,0,0,0,0,0,3 0,1,2,3,4,5,6,7,9", () -> report(x));
    }

    /** All that goes through all markings, where there are 150 of them and more could be found. */
    private static void fullExploration() {
        String end = "The exploration stops when it has 150 markings; it is complete if no further marking would have been found.";
        // All markings of at most 15 tokens, and 14 of 16 tokens; transition 2 is never enabled.
        PetriNet x = made("net 2 3;out 0 0 1;out 1 1 1;in 0 2 1;inhibit 0 2 1;");
        term(40, end);
        due("16,0 3,13", () -> markingOf(x, 136) + " " + markingOf(x, 149));
        term(44, end);
        due("0 -1", () -> x.deadMarkings() + " " + x.firstDeadMarking());
        term(45, end);
        due("16 15", () -> x.bound(0) + " " + x.bound(1));
        term(46, end);
        due("true false", () -> x.canFire(1) + " " + x.canFire(2));
        term(47, end);
        due(false, x::returnsHome);
        term(48, end);
        x.setTokens(0, 1);
        due("-1 0", () -> x.distanceToEmpty(0) + " " + x.distanceToEmpty(1));
        term(39, end);
        due(false, x::isComplete);
        x.setCapacity(1, 3);
        due("true 120", () -> x.isComplete() + " " + x.markingCount());
    }

    private static void termsOfFiring() {
        String enabled = "A transition is enabled in a marking if, for each place: the tokens are at least the input weight; "
            + "the tokens minus the input weight plus the output weight are not greater than the capacity; and the inhibitor "
            + "limit is 0 or the tokens are less than it.";
        term(30, enabled);
        PetriNet weight = made("net 2 1;tokens 1 3;in 1 0 3;");
        due(0, () -> weight.whyNotEnabled(0));
        weight.setInput(1, 0, 4);
        due(1, () -> weight.whyNotEnabled(0));
        PetriNet room = made("net 2 1;capacity 1 5;tokens 1 3;in 1 0 2;out 0 1 4;");
        due(0, () -> room.whyNotEnabled(0));
        room.setOutput(0, 1, 5);
        due(3, () -> room.whyNotEnabled(0));
        PetriNet limit = made("net 2 1;tokens 1 3;inhibit 1 0 4;");
        due(0, () -> limit.whyNotEnabled(0));
        limit.setInhibitor(1, 0, 3);
        due(2, () -> limit.whyNotEnabled(0));
        limit.setInhibitor(1, 0, 0);
        due(0, () -> limit.whyNotEnabled(0));
        term(46, enabled);
        // Transition 2 is enabled with no token alone, and transition 1 with four, which are never there.
        PetriNet other = made("net 1 3;tokens 0 3;in 0 0 1;in 0 1 4;inhibit 0 2 1;");
        due("true false true", () -> other.canFire(0) + " " + other.canFire(1) + " " + other.canFire(2));
        term(11, "When an enabled transition fires, each place loses as many tokens as the input weight and gets as many as the "
            + "output weight.");
        PetriNet x = made("net 4 2;tokens 0 9;tokens 1 9;tokens 2 9;tokens 3 9;in 0 0 2;in 1 0 3;out 0 1 7;out 0 2 5;in 3 1 9;out 1 0 9;");
        due("1 7,13,14,9", () -> x.fire(0) + " " + markingOf(x));
        due("1 16,13,14,0", () -> x.fire(1) + " " + markingOf(x));
        String reason = "The reason why a transition is not enabled is the first of these that applies for some place, and the "
            + "blocking place is the first place for which this reason applies: TOO_FEW tokens, INHIBITED, NO_SPACE (the capacity).";
        PetriNet y = made("net 6 1;capacity 0 1;capacity 1 1;out 0 0 2;out 0 1 2;tokens 2 1;tokens 3 1;inhibit 2 0 1;inhibit 3 0 1;"
            + "in 4 0 1;in 5 0 1;");
        String[] left = {"1 4", "1 5", "2 2", "2 3", "3 0", "3 1", "0 -1"};
        int[] tokens = {1, 1, 0, 0};
        int[] places = {4, 5, 2, 3};
        for (int i = 0; i < left.length; i++) {
            final String want = left[i];
            term(30, reason);
            due(Integer.parseInt(want.substring(0, 1)), () -> y.whyNotEnabled(0));
            term(31, reason);
            due(Integer.parseInt(want.substring(2)), () -> y.blockingPlace(0));
            if (i < places.length) {
                y.setTokens(places[i], tokens[i]);
            } else {
                y.setCapacity(i == 4 ? 0 : 1, 2);
            }
        }
        term(25, "The effect of a transition on a place is the output weight minus the input weight.");
        PetriNet z = made("net 2 2;in 0 1 9;out 1 0 2;out 0 1 5;");
        due("-7 0 0 5", () -> z.effect(1, 0) + " " + z.effect(1, 1) + " " + z.effect(0, 0) + " " + z.effect(0, 1));
    }

    private static void termsOfRuns() {
        term(12, "A run fires, again and again, the enabled transition with the smallest number of firings so far, of several the "
            + "one with the smallest number.");
        PetriNet x = made("net 2 4;fire 3;fire 3;fire 0;in 1 1 1;");
        String[] after = {"1,0,1,2", "2,0,1,2", "2,0,2,2", "3,0,2,2", "3,0,3,2", "3,0,3,3"};
        for (String want : after) {
            due("1 " + want, () -> x.run(1) + " " + firingsOf(x));
        }
        due("7 6,0,5,5", () -> x.run(7) + " " + firingsOf(x));
        x.setTokens(1, 1);
        due("1 6,1,5,5", () -> x.run(1) + " " + firingsOf(x));
        term(34, "The firings are counted for each transition since the net was made, whoever fired it.");
        PetriNet y = made("net 1 2;fire 1;run 3;");
        due("2,2", () -> firingsOf(y));
        y.fire(1);
        due("2,3", () -> firingsOf(y));
        y.run(2);
        due("4,3", () -> firingsOf(y));
        due("2,0,0,0", () -> firingsOf(new PetriNet()));
    }

    private static void termsOfMarkings() {
        String search = "The markings that can be reached from the present one are explored by a breadth-first search: the present "
            + "marking has the number 0; markings are expanded in the order of their numbers, each one by the enabled transitions in "
            + "ascending order; a new marking gets the next number.";
        PetriNet x = made(TREE);
        String[] markings = {"2,0,0", "1,1,0", "1,0,1", "0,2,0", "0,1,1", "0,0,2"};
        int[] transitions = {-1, 0, 1, 0, 1, 1};
        term(38, search);
        due(markings.length, x::markingCount);
        for (int i = 0; i < markings.length; i++) {
            final int number = i;
            term(40, search);
            due(markings[i], () -> markingOf(x, number));
            term(42, search);
            due(transitions[i], () -> x.markingTransition(number));
        }
        term(38, "The exploration stops when it has 150 markings; it is complete if no further marking would have been found.");
        String counters = "net 3 3;out 0 0 1;out 1 1 1;out 2 2 1;";
        PetriNet below = made(counters + "capacity 0 3;capacity 1 3;capacity 2 7;");
        PetriNet just = made(counters + "capacity 0 4;capacity 1 4;capacity 2 5;");
        PetriNet beyond = made(counters + "capacity 0 4;capacity 1 4;capacity 2 6;");
        due("128 150 150", () -> below.markingCount() + " " + just.markingCount() + " " + beyond.markingCount());
        due("true true false", () -> below.isComplete() + " " + just.isComplete() + " " + beyond.isComplete());
    }

    private static void termsOfInvariants() {
        String digits = "A vector is passed as an int whose decimal digits are the weights: the last digit belongs to place (or "
            + "transition) 0, the digit before it to place 1, and so on; digits of places that do not exist must be 0.";
        term(51, "A place vector gives each place a weight from 0 to 9.");
        PetriNet x = made("net 3 2;tokens 0 1;tokens 1 2;tokens 2 4;in 0 0 3;out 0 1 1;in 1 1 2;out 1 0 6;");
        due("0 63 37", () -> x.weightedTokens(0) + " " + x.weightedTokens(999) + " " + x.weightedTokens(901));
        term(49, "It is a place invariant if, for each transition, the sum over all places of the weight times the effect is 0.");
        due("true true true", () -> x.isPlaceInvariant(31) + " " + x.isPlaceInvariant(931) + " " + x.isPlaceInvariant(62));
        due("false false", () -> x.isPlaceInvariant(13) + " " + x.isPlaceInvariant(11));
        x.setOutput(1, 0, 5);
        due(false, () -> x.isPlaceInvariant(31));
        x.setOutput(1, 0, 6);
        x.setOutput(0, 1, 2);
        due(false, () -> x.isPlaceInvariant(31));
        // The sum is not 0 for the last of more transitions than places.
        due(false, () -> made("net 1 3;out 2 0 1;").isPlaceInvariant(1));
        term(50, "A transition vector gives each transition a number from 0 to 9; it is a transition invariant if, for each place, "
            + "the sum over all transitions of this number times the effect is 0.");
        PetriNet y = made("net 2 3;in 0 0 3;out 1 0 1;in 1 0 1;out 2 1 1;");
        due("true true true", () -> y.isTransitionInvariant(0) + " " + y.isTransitionInvariant(131) + " "
            + y.isTransitionInvariant(393));
        due("false false", () -> y.isTransitionInvariant(31) + " " + y.isTransitionInvariant(113));
        // The sum is not 0 for the first and for the last of more places than transitions.
        due("false false", () -> made("net 3 1;out 0 0 1;").isTransitionInvariant(1) + " "
            + made("net 3 1;out 0 2 1;").isTransitionInvariant(1));
        term(51, digits);
        due("1 2 4 21", () -> x.weightedTokens(1) + " " + x.weightedTokens(10) + " " + x.weightedTokens(100) + " "
            + x.weightedTokens(325));
        refuses(ARGUMENT, x::weightedTokens, 1000, 5000, 10000, 1000000000);
        term(49, digits);
        refuses(ARGUMENT, x::isPlaceInvariant, 1000, 1031, 10031, 1000000031);
        term(50, digits);
        refuses(ARGUMENT, y::isTransitionInvariant, 1000, 1131, 10131, 1000000131);
    }

    private static void termsOfScripts() {
        term(5, "A script is a text of at most 500 bytes.");
        PetriNet full = new PetriNet();
        String text = "net 1 1;" + " ".repeat(481) + "tokens 0 3;";
        due("500 3 0 at -1", () -> text.length() + " " + script(full, text) + " " + errorOf(full));
        term(5, "script  = \"net\" PLACES TRANSITIONS \";\" { command \";\" }");
        PetriNet x = made("net 3 2;");
        due("3 2", () -> x.placeCount() + " " + x.transitionCount());
        error("0 at -1", "net 1 1;run 1;");
        error("0 at -1", "net 1 1;run 1;run 1;run 1;");
        error("1 at 0", "run 1;");
        error("1 at 5", "net 1;");
        error("1 at 8", "net 1 1 run 1;");
        error("1 at 14", "net 1 1;run 1 run 1;");
        error("1 at 8", "net 1 1;net 1 1;");
        error("1 at 8", "net 1 1;;");
        term(5, "command = \"tokens\" PLACE N | \"capacity\" PLACE N | \"in\" PLACE TRANSITION WEIGHT | \"out\" TRANSITION PLACE WEIGHT"
            + " | \"inhibit\" PLACE TRANSITION LIMIT | \"fire\" TRANSITION | \"run\" N");
        PetriNet y = made("net 2 3;tokens 1 4;capacity 1 6;in 1 2 1;out 2 0 5;inhibit 0 1 7;fire 2;run 2;");
        due("5,3 1,1,1 30 6", () -> markingOf(y) + " " + firingsOf(y) + " " + y.capacity(0) + " " + y.capacity(1));
        due("0 0 0, 0 0 0, 0 0 7, 0 0 0, 0 5 0, 1 0 0, ", () -> weightsOf(y));
        tokensOfScripts();
        errorsOfScripts();
    }

    private static void tokensOfScripts() {
        term(20, "A token is a word (a maximal run of the letters a to z), a number (a maximal run of 1 to 3 digits) or a semicolon.");
        error("1 at 0", "netz 1 1;");
        error("1 at 0", "anet 1 1;");
        error("1 at 0", "zet 1 1;");
        error("1 at 0", "Net 1 1;");
        error("0 at -1", "net 001 010;run 200;");
        error("2 at 4", "net 11 1;");
        error("1 at 4", "net 0001 1;");
        error("1 at 8", "net 1 1;,");
        error("0 at -1", "net1 1;run1;");
        term(20, "Spaces (byte 32) and line feeds (byte 10) separate tokens and are otherwise ignored.");
        error("0 at -1", "\n \nnet\n1  1 \n ; run 1\n;\n");
        error("2 at 4", "net 11;");
        error("1 at 6", "net 1\n;");
        error("1 at 1", " n et 1 1;");
        error("1 at 1", "\nne\nt 1 1;");
        for (char other : new char[] {9, 11, 13, 0, 31, 33, 160}) {
            error("1 at 5", "net 1" + other + "1;");
        }
        term(5, "At first every capacity is 30, and all tokens, weights and limits are 0.");
        PetriNet x = made("net 2 2;capacity 0 9;capacity 1 9;tokens 0 1;tokens 1 1;in 0 0 1;in 1 1 1;out 0 0 1;out 1 1 1;inhibit 0 0 2;"
            + "inhibit 1 1 2;");
        script(x, "net 2 2;");
        due("30 30 0 0", () -> x.capacity(0) + " " + x.capacity(1) + " " + x.tokens(0) + " " + x.tokens(1));
        due("0 0 0, 0 0 0, 0 0 0, 0 0 0, ", () -> weightsOf(x));
        term(5, "\"run\" fires at most N transitions (1 to 200) by the rule of runs.");
        due("2,0,2", () -> firingsOf(made("net 1 3;fire 2;in 0 1 1;run 3;")));
        due("200", () -> firingsOf(made("net 1 1;run 200;")));
        due("30", () -> firingsOf(made("net 1 1;out 0 0 1;run 200;")));
        error("2 at 12", "net 1 1;run 0;");
        error("2 at 12", "net 1 1;run 201;");
        term(5, "Commands are executed one after the other.");
        due("3", () -> markingOf(made("net 1 1;tokens 0 9;in 0 0 2;run 3;in 0 0 0;run 1;")));
        due("4", () -> markingOf(made("net 1 1;capacity 0 4;tokens 0 4;capacity 0 9;")));
        error("2 at 30", "net 1 1;capacity 0 4;tokens 0 9;capacity 0 9;");
    }

    private static void errorsOfScripts() {
        String first = "The first error in the text is reported with the offset of the first byte of its token.";
        term(20, first);
        error("2 at 18", "net 1 1;\n tokens  31 99 ?");
        error("1 at 17", "net 1 1;tokens 0 oops;tokens 5 5;");
        error("1 at 16", "net 1 1;tokens 0;tokens 5 5;");
        error("1 at 14", "net 1 1;run 1 run 1;oops");
        error("1 at 8", "net 1 1;oops;tokens 5 5;");
        error("1 at 8", "net 1 1 run 1;oops");
        error("3 at 25", "net 1 1;in 0 0 1;fire  \n 0; tokens 9 9;");
        term(19, first);
        error("2 at 4", "net 9 ?;");
        error("1 at 4", "net ? 9;");
        error("3 at 22", "net 1 1;in 0 0 1;fire 0;?;run 999;");
        String kinds = "The error kinds are: 1, a token that the grammar does not allow at this place, a run of more than 3 digits, a byte "
            + "that does not begin a token, or the end of the text inside a statement (the offset is then the length of the text); 2, a "
            + "number that is out of its range (tokens above the capacity, a capacity below the tokens); 3, the transition of \"fire\" "
            + "if it is not enabled.";
        term(19, kinds);
        error("1 at 8", "net 1 1;4;");
        error("1 at 12", "net 1 1;run ;");
        error("1 at 8", "net 1 1;walk 4;");
        error("1 at 12", "net 1 1;run 0004;");
        error("1 at 12", "net 1 1;run +4;");
        error("1 at 8", "net 1 1;\u00e9");
        error("2 at 12", "net 1 1;run 999;");
        error("2 at 30", "net 1 1;capacity 0 5;tokens 0 6;");
        error("2 at 30", "net 1 1;tokens 0 5;capacity 0 4;");
        error("0 at -1", "net 1 1;tokens 0 5;capacity 0 5;tokens 0 5;");
        error("3 at 22", "net 1 1;in 0 0 1;fire 0;");
        error("0 at -1", "net 1 1;in 0 0 1;run 1;");
        numbersOutOfRange(kinds);
        term(20, kinds);
        error("1 at 0", "");
        error("1 at 4", "net ");
        error("1 at 11", "net 1 1;run");
        error("1 at 15", "net 1 1;run 1 \n");
        error("0 at -1", "net 1 1;run 1; \n");
    }

    /** Each number of each command: the first and the last that is in its range, and the first beyond it. */
    private static void numbersOutOfRange(String kinds) {
        term(19, kinds);
        error("0 at -1", "net 2 3;tokens 0 0;tokens 1 30;capacity 0 1;capacity 1 30;in 0 0 0;in 1 2 9;out 0 0 0;out 2 1 9;"
            + "inhibit 0 0 0;inhibit 1 2 9;fire 0;run 1;run 200;");
        error("2 at 15", "net 2 3;tokens 2 0;");
        error("2 at 17", "net 2 3;tokens 1 31;");
        error("2 at 17", "net 2 3;capacity 2 1;");
        error("2 at 19", "net 2 3;capacity 1 0;");
        error("2 at 19", "net 2 3;capacity 1 31;");
        error("2 at 11", "net 2 3;in 2 2 1;");
        error("2 at 13", "net 2 3;in 1 3 1;");
        error("2 at 15", "net 2 3;in 1 2 10;");
        error("2 at 12", "net 2 3;out 3 1 1;");
        error("2 at 14", "net 2 3;out 2 2 1;");
        error("2 at 16", "net 2 3;out 2 1 10;");
        error("2 at 16", "net 2 3;inhibit 2 2 1;");
        error("2 at 18", "net 2 3;inhibit 1 3 1;");
        error("2 at 20", "net 2 3;inhibit 1 2 10;");
        error("2 at 13", "net 2 3;fire 3;");
        error("2 at 12", "net 2 3;run 0;");
        error("2 at 12", "net 2 3;run 201;");
    }

    private static void termsOfUndo() {
        term(16, "The methods from `runScript` to `reverseNet` are changes.");
        PetriNet x = new PetriNet();
        due("0 1", () -> script(x, "net 1 1;") + " " + x.undoCount());
        due("0 2", () -> x.setTokens(0, 3) + " " + x.undoCount());
        due("30 3", () -> x.setCapacity(0, 7) + " " + x.undoCount());
        due("0 4", () -> x.setInput(0, 0, 1) + " " + x.undoCount());
        due("0 5", () -> x.setOutput(0, 0, 2) + " " + x.undoCount());
        due("0 6", () -> x.setInhibitor(0, 0, 9) + " " + x.undoCount());
        due("1 7", () -> x.fire(0) + " " + x.undoCount());
        due("1 8", () -> x.run(1) + " " + x.undoCount());
        due("1 9", () -> x.moveToMarking(1) + " " + x.undoCount());
        due("1 10", () -> x.reverseNet() + " " + x.undoCount());
        x.undo();
        x.append(0, 0, 0, 0, 0);
        x.truncateInput(0);
        x.saveSnapshot();
        x.writeMarking();
        due(9, x::undoCount);
        term(15, "Each call of a change that does not throw an exception, and each successful script, can be undone, the latest one "
            + "first; the simulator remembers the latest 10.");
        PetriNet y = made("net 1 1;");
        due(ARGUMENT, () -> y.setTokens(0, 31));
        due(-1, () -> script(y, "net 1 1;oops"));
        due(1, y::undoCount);
        for (int tokens = 1; tokens <= 12; tokens++) {
            y.setTokens(0, tokens);
        }
        for (int tokens = 11; tokens >= 2; tokens--) {
            due(tokens - 2 + " " + tokens, () -> y.undo() + " " + y.tokens(0));
        }
        due("-1 2", () -> y.undo() + " " + y.tokens(0));
        term(15, "Undoing restores everything except the input buffer, the script error, the report and the snapshot.");
        PetriNet z = made(TREE);
        z.saveSnapshot();
        String before = stateOf(z);
        script(z, "net 1 1;tokens 0 9;capacity 0 9;in 0 0 1;out 0 0 1;inhibit 0 0 1;run 200;");
        script(z, "net 1 1;?");
        z.writeMarking();
        type(z, "net");
        due("1 " + before, () -> z.undo() + " " + stateOf(z));
        due("3 1 at 8 9 -", () -> z.inputLength() + " " + errorOf(z) + " " + bytesOfReport(z, 3));
        due("0 2", () -> z.undo() + " " + z.restoreSnapshot());
        due(before, () -> stateOf(z));
        due(weightsOf(made(TREE)), () -> weightsOf(z));
        term(11, "A call that throws an exception changes nothing, unless its description says otherwise.");
        PetriNet u = new PetriNet();
        u.fire(0);
        due(STATE, () -> u.fire(0));
        due("0,3,1,0 3,0,0,0 1", () -> markingOf(u) + " " + firingsOf(u) + " " + u.undoCount());
        term(7, "If several exceptions apply, the one that is listed first is thrown.");
        due(OUT_OF_BOUNDS, () -> u.setCapacity(4, 0));
        due(ARGUMENT, () -> u.setCapacity(1, 0));
        due(STATE, () -> u.setCapacity(1, 1));
        term(40, "If several exceptions apply, the one that is listed first is thrown.");
        due(OUT_OF_BOUNDS, () -> u.markingTokens(-1, 4));
    }

    private static void constants() {
        term(48, "The constants: `NONE = -1`: Returned if there is no such value.");
        due(-1, () -> PetriNet.NONE);
        due(-1, () -> made("net 1 1;tokens 0 1;").distanceToEmpty(0));
        term(2, "`NO_ROOM = -2`: Returned by append() if the input buffer is full.");
        PetriNet x = new PetriNet();
        type(x, " ".repeat(500));
        due(-2, () -> PetriNet.NO_ROOM);
        due(-2, () -> x.append(0, 0, 0, 0, 0));
        term(30, "`ENABLED = 0, TOO_FEW = 1, INHIBITED = 2, NO_SPACE = 3`: The reasons why a transition is not enabled, and 0 if it is.");
        due("0 1 2 3", () -> PetriNet.ENABLED + " " + PetriNet.TOO_FEW + " " + PetriNet.INHIBITED + " " + PetriNet.NO_SPACE);
        PetriNet y = made("net 1 4;tokens 0 30;in 0 1 9;in 0 0 1;out 2 0 1;inhibit 0 3 9;");
        due("0 0 3 2", () -> y.whyNotEnabled(0) + " " + y.whyNotEnabled(1) + " " + y.whyNotEnabled(2) + " " + y.whyNotEnabled(3));
        y.setTokens(0, 8);
        due("0 1 0 0", () -> y.whyNotEnabled(0) + " " + y.whyNotEnabled(1) + " " + y.whyNotEnabled(2) + " " + y.whyNotEnabled(3));
    }

    private static void promise1() {
        says(1, "Creates a net as by the script \"" + FIRST_SCRIPT + "\".");
        PetriNet x = new PetriNet();
        due("1,2,1,0 0,1,3", () -> report(x));
        due(stateOf(made(FIRST_SCRIPT)), () -> stateOf(x));
        due(weightsOf(made(FIRST_SCRIPT)), () -> weightsOf(x));
        says(1, "The input buffer is empty, and nothing can be undone.");
        PetriNet y = new PetriNet();
        due("0 0 -1", () -> y.inputLength() + " " + y.undoCount() + " " + y.undo());
    }

    private static void promises2To5() {
        says(2, "Appends 20 bytes to the input buffer: the four bytes of each parameter, the most significant byte first.");
        PetriNet x = new PetriNet();
        x.append(0x6e657420, 0x3120313b, 0x746f6b65, 0x6e732030, 0x2031373b);
        due("20 17", () -> x.inputLength() + " " + x.runScript());
        says(2, "Returns the new length of the buffer, or NO_ROOM (and nothing is appended) if it would be greater than 500.");
        type(x, " ".repeat(479));
        due("499 -2 499", () -> x.append(0, 0, 0, 0, 0) + " " + x.append(0, 0, 0, 0, 0) + " " + x.inputLength());
        x.truncateInput(480);
        due("500 -2 500", () -> x.append(0, 0, 0, 0, 0) + " " + x.append(0, 0, 0, 0, 0) + " " + x.inputLength());
        x.truncateInput(481);
        due("-2 481", () -> x.append(0, 0, 0, 0, 0) + " " + x.inputLength());
        says(3, "Shortens the input buffer.");
        type(x, "net 1 1;tokens 0 5;");
        x.truncateInput(8);
        due("8 0", () -> x.inputLength() + " " + x.runScript());
        // What stood behind the new end is no part of the text: neither the x of a word nor the 5 of a number.
        type(x, "net 1 1;tokensx");
        due("14 -1 1 at 14", () -> x.truncateInput(14) + " " + x.runScript() + " " + errorOf(x));
        type(x, "net 1 1;tokens 0 05");
        due("18 -1 1 at 18", () -> x.truncateInput(18) + " " + x.runScript() + " " + errorOf(x));
        says(3, "Returns the new length.");
        type(x, "net 1 1;");
        due("8 7 0", () -> x.truncateInput(8) + " " + x.truncateInput(7) + " " + x.truncateInput(0));
        says(3, "Throws `IllegalArgumentException` if `length` is negative or greater than the present length");
        refuses(ARGUMENT, x::truncateInput, -1, 1, Integer.MIN_VALUE, Integer.MAX_VALUE);
        type(x, "net 1 1;");
        refuses(ARGUMENT, x::truncateInput, -1, 9, 500);
        says(4, "Returns the number of bytes in the input buffer.");
        due("8 28 28", () -> x.inputLength() + " " + x.append(0, 0, 0, 0, 0) + " " + x.inputLength());
        says(5, "Executes the input buffer as a script.");
        due("5 1,4", () -> script(x, "net 2 1;tokens 0 5;in 0 0 1;out 0 1 1;run 4;") + " " + markingOf(x));
        says(5, "A script without an error replaces everything; all firings are counted from 0.");
        due("4 0,0", () -> x.firings(0) + " " + script(x, "net 2 1;") + "," + x.firings(0));
        due("0,0 30 0 0 0, 0 0 0, ", () -> markingOf(x) + " " + x.capacity(1) + " " + weightsOf(x));
        says(5, "The input buffer is empty afterwards in every case.");
        type(x, "net 1 1;");
        due("0 0", () -> x.runScript() + " " + x.inputLength());
        type(x, "net 1 1");
        due("-1 0", () -> x.runScript() + " " + x.inputLength());
        says(5, "If the script has an error, only the input buffer and the script error change.");
        PetriNet y = made(TREE);
        y.saveSnapshot();
        y.fire(0);
        y.writeMarking();
        String before = stateOf(y);
        due("-1 2 at 33", () -> script(y, "net 2 2;fire 1;in 0 0 9;tokens 1 31;") + " " + errorOf(y));
        due(before + " 1,1,0", () -> stateOf(y) + " " + bytesOfReport(y, 5));
        due("2 1 0 2", () -> y.undoCount() + " " + y.undo() + " " + y.undo() + " " + y.restoreSnapshot());
        says(5, "Returns the number of all tokens, or NONE if the script has an error.");
        due("9 -1 0", () -> script(y, "net 2 1;tokens 0 4;tokens 1 5;") + " " + script(y, "net 2 1;tokens 0 4;tokens 1 31;") + " "
            + script(y, "net 1 1;"));
    }

    private static void promises6And7() {
        PetriNet x = made(NARROW);
        says(6, "Sets the tokens of a place.");
        x.setTokens(1, 9);
        due("4,9", () -> markingOf(x));
        says(6, "Returns the previous tokens.");
        due("9 3", () -> x.setTokens(1, 3) + " " + x.setTokens(1, 0));
        says(6, "Throws `IndexOutOfBoundsException` if `place` is not the number of a place");
        refuses(OUT_OF_BOUNDS, place -> x.setTokens(place, 1), NO_PLACE);
        says(6, "Throws `IllegalArgumentException` if `tokens` is out of range");
        x.setCapacity(1, 20);
        refuses(ARGUMENT, tokens -> x.setTokens(1, tokens), -1, 21, 30, Integer.MIN_VALUE, Integer.MAX_VALUE);
        due("0 20", () -> x.setTokens(1, 20) + " " + x.setTokens(1, 0));
        says(7, "Sets the capacity of a place.");
        x.setCapacity(1, 11);
        due("30 11", () -> x.capacity(0) + " " + x.capacity(1));
        says(7, "Returns the previous capacity.");
        due("11 5", () -> x.setCapacity(1, 5) + " " + x.setCapacity(1, 6));
        says(7, "Throws `IndexOutOfBoundsException` if `place` is not the number of a place");
        refuses(OUT_OF_BOUNDS, place -> x.setCapacity(place, 5), NO_PLACE);
        says(7, "Throws `IllegalArgumentException` if `capacity` is out of range");
        refuses(ARGUMENT, capacity -> x.setCapacity(1, capacity), -1, 0, 31, Integer.MIN_VALUE, Integer.MAX_VALUE);
        due("6 1 30", () -> x.setCapacity(1, 1) + " " + x.setCapacity(1, 30) + " " + x.capacity(1));
        says(7, "Throws `IllegalStateException` if the place has more tokens");
        refuses(STATE, capacity -> x.setCapacity(0, capacity), 1, 3);
        due("30 4", () -> x.setCapacity(0, 4) + " " + x.capacity(0));
    }

    private static void promises8To10() {
        PetriNet x = made(NARROW);
        says(8, "Sets an input weight.");
        x.setInput(1, 2, 7);
        due("2 4 -7", () -> x.inputPlaces(2) + " " + x.consumers(1) + " " + x.effect(2, 1));
        says(8, "Returns the previous input weight.");
        due("7 3", () -> x.setInput(1, 2, 3) + " " + x.setInput(1, 2, 0));
        says(8, "Throws `IndexOutOfBoundsException` if `place` or `transition` is not valid");
        refuses(OUT_OF_BOUNDS, place -> x.setInput(place, 0, 1), NO_PLACE);
        refuses(OUT_OF_BOUNDS, transition -> x.setInput(0, transition, 1), NO_TRANSITION);
        says(8, "Throws `IllegalArgumentException` if `weight` is out of range");
        refuses(ARGUMENT, weight -> x.setInput(1, 2, weight), -1, 10, Integer.MIN_VALUE, Integer.MAX_VALUE);
        due("0 9", () -> x.setInput(1, 2, 9) + " " + x.setInput(1, 2, 0));
        says(9, "Sets an output weight.");
        x.setOutput(2, 1, 7);
        due("2 7", () -> x.outputPlaces(2) + " " + x.effect(2, 1));
        says(9, "Returns the previous output weight.");
        due("7 3", () -> x.setOutput(2, 1, 3) + " " + x.setOutput(2, 1, 0));
        says(9, "Throws `IndexOutOfBoundsException` if `transition` or `place` is not valid");
        refuses(OUT_OF_BOUNDS, transition -> x.setOutput(transition, 0, 1), NO_TRANSITION);
        refuses(OUT_OF_BOUNDS, place -> x.setOutput(0, place, 1), NO_PLACE);
        says(9, "Throws `IllegalArgumentException` if `weight` is out of range");
        refuses(ARGUMENT, weight -> x.setOutput(2, 1, weight), -1, 10, Integer.MIN_VALUE, Integer.MAX_VALUE);
        due("0 9", () -> x.setOutput(2, 1, 9) + " " + x.setOutput(2, 1, 0));
        says(10, "Sets an inhibitor limit.");
        x.setTokens(1, 7);
        x.setInhibitor(1, 2, 7);
        due("2 1", () -> x.whyNotEnabled(2) + " " + x.blockingPlace(2));
        says(10, "Returns the previous limit.");
        due("7 3", () -> x.setInhibitor(1, 2, 3) + " " + x.setInhibitor(1, 2, 0));
        due(0, () -> x.whyNotEnabled(2));
        says(10, "Throws `IndexOutOfBoundsException` if `place` or `transition` is not valid");
        refuses(OUT_OF_BOUNDS, place -> x.setInhibitor(place, 0, 1), NO_PLACE);
        refuses(OUT_OF_BOUNDS, transition -> x.setInhibitor(0, transition, 1), NO_TRANSITION);
        says(10, "Throws `IllegalArgumentException` if `limit` is out of range");
        refuses(ARGUMENT, limit -> x.setInhibitor(1, 2, limit), -1, 10, Integer.MIN_VALUE, Integer.MAX_VALUE);
        due("0 9", () -> x.setInhibitor(1, 2, 9) + " " + x.setInhibitor(1, 2, 0));
    }

    private static void promises11And12() {
        PetriNet x = made(NARROW + "in 1 1 1;");
        says(11, "Fires a transition.");
        x.fire(0);
        due("3,0 1,0,0", () -> markingOf(x) + " " + firingsOf(x));
        says(11, "Returns the number of its firings so far.");
        due("2 3 1", () -> x.fire(0) + " " + x.fire(0) + " " + x.fire(2));
        says(11, "Throws `IndexOutOfBoundsException` if `transition` is not the number of a transition");
        refuses(OUT_OF_BOUNDS, x::fire, NO_TRANSITION);
        says(11, "Throws `IllegalStateException` if it is not enabled");
        due(STATE, () -> x.fire(1));
        x.fire(0);
        due(STATE, () -> x.fire(0));
        says(12, "Fires transitions by the rule of runs, until none is enabled or the number is reached.");
        PetriNet y = made(TREE);
        y.run(1);
        due("1,1,0", () -> markingOf(y));
        y.run(200);
        due("0,1,1", () -> markingOf(y));
        PetriNet endless = made("net 1 3;");
        endless.run(200);
        due("67,67,66", () -> firingsOf(endless));
        says(12, "Returns the number of transitions that were fired.");
        due("0 200 7", () -> y.run(5) + " " + endless.run(200) + " " + endless.run(7));
        due(2, () -> made(TREE).run(3));
        says(12, "Throws `IllegalArgumentException` if `number` is out of range");
        refuses(ARGUMENT, endless::run, 0, -1, 201, Integer.MIN_VALUE, Integer.MAX_VALUE);
        due("1 200", () -> endless.run(1) + " " + endless.run(200));
    }

    private static void promises13And14() {
        PetriNet x = made(TREE);
        says(13, "Makes the marking one of the reachable markings.");
        x.moveToMarking(4);
        due("0,1,1", () -> markingOf(x));
        x.undo();
        x.moveToMarking(2);
        due("1,0,1 3", () -> markingOf(x) + " " + x.markingCount());
        says(13, "Firings are not counted by this.");
        due("0,0", () -> firingsOf(x));
        says(13, "Returns the number of transitions that lead to it on the shortest way.");
        due("0 1", () -> x.moveToMarking(0) + " " + x.moveToMarking(1));
        // From 4 tokens, transition 2 leads to 0 at once, where transition 1 leads in four steps.
        PetriNet y = made("net 1 3;tokens 0 4;in 0 0 9;in 0 1 1;in 0 2 4;");
        due("1 0", () -> y.moveToMarking(2) + " " + y.tokens(0));
        says(13, "Throws `NoSuchElementException` if there is no reachable marking with this number");
        due(1, y::markingCount);
        refuses(NO_ELEMENT, y::moveToMarking, -1, 1, 149, 150, Integer.MIN_VALUE, Integer.MAX_VALUE);
        says(14, "Exchanges all input weights with the output weights: each transition does the opposite afterwards.");
        PetriNet z = made("net 2 2;tokens 0 9;in 0 0 2;out 0 1 3;in 1 1 4;inhibit 0 1 6;inhibit 1 0 5;");
        z.fire(0);
        due("7,3", () -> markingOf(z));
        z.reverseNet();
        z.fire(0);
        due("9,0", () -> markingOf(z));
        says(14, "Inhibitor limits stay.");
        due("0 2 0, 3 0 5, 0 0 6, 0 4 0, ", () -> weightsOf(z));
        says(14, "Returns the number of transitions that are enabled afterwards.");
        PetriNet u = made("net 2 3;tokens 1 1;in 0 0 1;in 0 1 1;in 1 2 1;");
        due("1 3 1", () -> Integer.bitCount(u.enabledTransitions()) + " " + u.reverseNet() + " " + u.reverseNet());
    }

    private static void promises15To18() {
        says(15, "Undoes the latest change that has not been undone.");
        PetriNet x = new PetriNet();
        x.setTokens(0, 7);
        x.setTokens(0, 8);
        x.setTokens(0, 9);
        x.undo();
        due(8, () -> x.tokens(0));
        x.setTokens(0, 20);
        x.undo();
        due(8, () -> x.tokens(0));
        x.undo();
        due(7, () -> x.tokens(0));
        says(15, "Returns the number of changes that can still be undone, or NONE if there was nothing to undo.");
        x.setTokens(0, 1);
        due("1 0 -1 -1", () -> x.undo() + " " + x.undo() + " " + x.undo() + " " + x.undo());
        says(16, "Returns the number of changes that can be undone.");
        due(0, x::undoCount);
        x.fire(0);
        x.run(1);
        due("2 1 1", () -> x.undoCount() + " " + x.undo() + " " + x.undoCount());
        says(17, "Saves a snapshot of everything that undo restores, in place of an earlier one.");
        String before = stateOf(x);
        x.saveSnapshot();
        script(x, "net 1 1;tokens 0 3;run 4;");
        x.restoreSnapshot();
        due(before, () -> stateOf(x));
        x.setTokens(0, 17);
        x.saveSnapshot();
        x.setTokens(0, 18);
        x.restoreSnapshot();
        due(17, () -> x.tokens(0));
        due(weightsOf(new PetriNet()), () -> weightsOf(x));
        says(17, "This is not a change.");
        PetriNet y = new PetriNet();
        y.setTokens(0, 5);
        y.saveSnapshot();
        due("1 0 1", () -> y.undoCount() + " " + y.undo() + " " + y.tokens(0));
        says(17, "Returns the number of all tokens.");
        due("4 4", () -> y.totalTokens() + " " + y.saveSnapshot());
        y.setTokens(3, 2);
        due(6, y::saveSnapshot);
        says(18, "Restores the snapshot, which stays saved.");
        y.setTokens(0, 30);
        y.restoreSnapshot();
        due("1,2,1,2", () -> markingOf(y));
        y.moveToMarking(1);
        y.setInput(0, 0, 9);
        due(true, () -> y.markingCount() > 0);
        y.restoreSnapshot();
        due("1,2,1,2 2,0,0,0 1", () -> markingOf(y) + " " + firingsOf(y) + " " + y.setInput(0, 0, 1));
        y.restoreSnapshot();
        says(18, "Nothing can be undone afterwards.");
        y.run(1);
        y.restoreSnapshot();
        due("0 -1", () -> y.undoCount() + " " + y.undo());
        says(18, "Returns the number of all tokens of the snapshot.");
        script(y, "net 1 1;tokens 0 25;");
        due(6, y::restoreSnapshot);
        says(18, "Throws `NoSuchElementException` if no snapshot was saved");
        PetriNet z = new PetriNet();
        z.fire(0);
        due(NO_ELEMENT, z::restoreSnapshot);
        z.saveSnapshot();
        due(4, z::restoreSnapshot);
    }

    private static void promises19To26() {
        PetriNet x = new PetriNet();
        says(19, "Returns the kind (1 to 3) of the error of the latest script, or 0 if it had no error or no script was run.");
        due(0, x::scriptErrorKind);
        due("-1 1", () -> script(x, "nets") + " " + x.scriptErrorKind());
        due("-1 2", () -> script(x, "net 0 0;") + " " + x.scriptErrorKind());
        due("-1 3", () -> script(x, "net 1 1;in 0 0 1;fire 0;") + " " + x.scriptErrorKind());
        due("0 0", () -> script(x, "net 1 1;") + " " + x.scriptErrorKind());
        says(20, "Returns the offset of the error of the latest script, or NONE if scriptErrorKind() is 0.");
        due("-1 -1", () -> new PetriNet().scriptErrorOffset() + " " + x.scriptErrorOffset());
        due("-1 22", () -> script(x, "net 1 1;in 0 0 1;fire 0;") + " " + x.scriptErrorOffset());
        due("-1 0", () -> script(x, "?") + " " + x.scriptErrorOffset());
        due("0 -1", () -> script(x, "net 1 1;") + " " + x.scriptErrorOffset());
        PetriNet y = made("net 5 7;tokens 1 3;tokens 4 30;capacity 3 12;in 1 6 2;out 6 1 9;");
        says(21, "Returns the number of places.");
        due("5 4", () -> y.placeCount() + " " + new PetriNet().placeCount());
        says(22, "Returns the number of transitions.");
        due("7 4", () -> y.transitionCount() + " " + new PetriNet().transitionCount());
        says(23, "Returns the tokens of a place.");
        due("0 3 30", () -> y.tokens(0) + " " + y.tokens(1) + " " + y.tokens(4));
        says(23, "Returns the number of its tokens.");
        due(3, () -> y.setTokens(1, 4));
        due(4, () -> y.tokens(1));
        PetriNet z = made(NARROW);
        says(23, "Throws `IndexOutOfBoundsException` if `place` is not the number of a place");
        refuses(OUT_OF_BOUNDS, z::tokens, NO_PLACE);
        says(24, "Returns the capacity of a place.");
        due("30 12", () -> y.capacity(4) + " " + y.capacity(3));
        says(24, "Returns its capacity.");
        due(12, () -> y.setCapacity(3, 1));
        due(1, () -> y.capacity(3));
        says(24, "Throws `IndexOutOfBoundsException` if `place` is not the number of a place");
        refuses(OUT_OF_BOUNDS, z::capacity, NO_PLACE);
        says(25, "Returns the effect of a transition on a place.");
        due("7 0 0", () -> y.effect(6, 1) + " " + y.effect(1, 4) + " " + y.effect(5, 1));
        says(25, "Returns the output weight minus the input weight.");
        y.setInput(1, 6, 9);
        y.setOutput(6, 1, 4);
        due("-5 -1", () -> y.effect(6, 1) + " " + z.effect(0, 0));
        says(25, "Throws `IndexOutOfBoundsException` if `transition` or `place` is not valid");
        refuses(OUT_OF_BOUNDS, transition -> z.effect(transition, 0), NO_TRANSITION);
        refuses(OUT_OF_BOUNDS, place -> z.effect(0, place), NO_PLACE);
        due(0, () -> z.effect(2, 1));
        says(26, "Returns the number of all tokens.");
        due("34 4 0", () -> y.totalTokens() + " " + z.totalTokens() + " " + made("net 8 10;").totalTokens());
    }

    private static void promises27To29() {
        PetriNet x = made("net 8 10;in 0 4 1;in 3 4 9;in 7 4 2;out 4 1 1;out 4 7 3;in 3 0 1;in 3 9 1;");
        PetriNet y = made(NARROW);
        says(27, "Returns the places from which a transition consumes tokens.");
        due("137 0 8", () -> x.inputPlaces(4) + " " + x.inputPlaces(1) + " " + x.inputPlaces(9));
        says(27, "Returns the set of these places as the sum of 2 to the power of their numbers.");
        due(1 + 8 + 128, () -> x.inputPlaces(4));
        says(27, "Throws `IndexOutOfBoundsException` if `transition` is not the number of a transition");
        refuses(OUT_OF_BOUNDS, y::inputPlaces, NO_TRANSITION);
        due("1 0", () -> y.inputPlaces(0) + " " + y.inputPlaces(2));
        says(28, "Returns the places to which a transition produces tokens.");
        due("130 0", () -> x.outputPlaces(4) + " " + x.outputPlaces(9));
        says(28, "Returns the set of these places as the sum of 2 to the power of their numbers.");
        due(2 + 128, () -> x.outputPlaces(4));
        says(28, "Throws `IndexOutOfBoundsException` if `transition` is not the number of a transition");
        refuses(OUT_OF_BOUNDS, y::outputPlaces, NO_TRANSITION);
        due(0, () -> y.outputPlaces(2));
        says(29, "Returns the transitions that consume tokens from a place.");
        due("529 16 0", () -> x.consumers(3) + " " + x.consumers(7) + " " + x.consumers(1));
        says(29, "Returns the set of these transitions as the sum of 2 to the power of their numbers.");
        due(1 + 16 + 512, () -> x.consumers(3));
        says(29, "Throws `IndexOutOfBoundsException` if `place` is not the number of a place");
        refuses(OUT_OF_BOUNDS, y::consumers, NO_PLACE);
        due("1 0", () -> y.consumers(0) + " " + y.consumers(1));
    }

    private static void promises30To35() {
        PetriNet x = made("net 2 4;capacity 1 3;tokens 0 2;tokens 1 3;in 0 0 2;in 0 1 3;inhibit 1 2 2;out 3 1 1;");
        PetriNet y = made(NARROW);
        says(30, "Returns whether and why a transition is not enabled.");
        due("0 1 2 3", () -> x.whyNotEnabled(0) + " " + x.whyNotEnabled(1) + " " + x.whyNotEnabled(2) + " " + x.whyNotEnabled(3));
        says(30, "Returns ENABLED, TOO_FEW, INHIBITED or NO_SPACE.");
        due(PetriNet.ENABLED, () -> x.whyNotEnabled(0));
        due(PetriNet.TOO_FEW, () -> x.whyNotEnabled(1));
        due(PetriNet.INHIBITED, () -> x.whyNotEnabled(2));
        due(PetriNet.NO_SPACE, () -> x.whyNotEnabled(3));
        says(30, "Throws `IndexOutOfBoundsException` if `transition` is not the number of a transition");
        refuses(OUT_OF_BOUNDS, y::whyNotEnabled, NO_TRANSITION);
        says(31, "Returns the place that blocks a transition.");
        due("0 1 1", () -> x.blockingPlace(1) + " " + x.blockingPlace(2) + " " + x.blockingPlace(3));
        says(31, "Returns the number of the blocking place, or NONE if the transition is enabled.");
        due(-1, () -> x.blockingPlace(0));
        x.setInput(1, 0, 4);
        due(1, () -> x.blockingPlace(0));
        says(31, "Throws `IndexOutOfBoundsException` if `transition` is not the number of a transition");
        refuses(OUT_OF_BOUNDS, y::blockingPlace, NO_TRANSITION);
        says(32, "Returns the set of the enabled transitions, as the sum of 2 to the power of their numbers.");
        due("0 7", () -> x.enabledTransitions() + " " + y.enabledTransitions());
        x.setTokens(1, 1);
        due(4 + 8, x::enabledTransitions);
        says(33, "Returns whether no transition is enabled.");
        due("false false", () -> x.isDead() + " " + y.isDead());
        x.setCapacity(1, 1);
        x.setInhibitor(1, 2, 1);
        due("true 0", () -> x.isDead() + " " + x.enabledTransitions());
        says(34, "Returns the number of firings of a transition.");
        y.fire(2);
        y.fire(2);
        y.fire(0);
        due("1 0 2", () -> y.firings(0) + " " + y.firings(1) + " " + y.firings(2));
        says(34, "Returns the number of its firings so far.");
        due("3 3", () -> y.fire(2) + " " + y.firings(2));
        says(34, "Throws `IndexOutOfBoundsException` if `transition` is not the number of a transition");
        refuses(OUT_OF_BOUNDS, y::firings, NO_TRANSITION);
        says(35, "Returns the transition that a run would fire next, or NONE if none is enabled.");
        due("1 -1", () -> y.nextOfRun() + " " + x.nextOfRun());
        y.run(1);
        due(0, y::nextOfRun);
        y.setTokens(0, 0);
        due(1, y::nextOfRun);
    }

    private static void promises36And37() {
        PetriNet x = made("net 2 4;tokens 0 5;in 0 0 2;out 0 1 1;out 1 0 9;in 1 2 1;out 2 1 1;");
        says(36, "Returns how often a transition could fire, one time after the other, if no other one fires.");
        due("2 2 0", () -> x.firesInRow(0) + " " + x.firesInRow(1) + " " + x.firesInRow(2));
        x.setCapacity(1, 1);
        due(1, () -> x.firesInRow(0));
        x.setInhibitor(0, 1, 6);
        due("1 5,0 0,0,0,0", () -> x.firesInRow(1) + " " + markingOf(x) + " " + firingsOf(x));
        says(36, "Returns the number of times, at most 1000.");
        x.setTokens(1, 1);
        due("1000 1000", () -> x.firesInRow(2) + " " + x.firesInRow(3));
        says(36, "Throws `IndexOutOfBoundsException` if `transition` is not the number of a transition");
        PetriNet y = made(NARROW);
        refuses(OUT_OF_BOUNDS, y::firesInRow, NO_TRANSITION);
        says(37, "Tells whether two transitions are in conflict: both are enabled, and after firing one of them the other one is not "
            + "enabled (for at least one of the two orders).");
        // 0 and 1 take the token that 2 gives back; 3 is not enabled; 4 takes and needs nothing.
        PetriNet z = made("net 3 5;tokens 0 1;tokens 1 1;in 0 0 1;in 0 1 1;in 0 2 1;out 2 0 1;inhibit 2 2 1;out 1 2 1;in 2 3 9;");
        due("true true", () -> z.areInConflict(0, 1) + " " + z.areInConflict(1, 0));
        due("true true", () -> z.areInConflict(0, 2) + " " + z.areInConflict(2, 0));
        due("false false", () -> z.areInConflict(0, 3) + " " + z.areInConflict(3, 0));
        due("false false", () -> z.areInConflict(0, 4) + " " + z.areInConflict(4, 1));
        says(37, "Returns whether they are in conflict.");
        z.setTokens(0, 2);
        due("false false", () -> z.areInConflict(0, 1) + " " + z.areInConflict(1, 0));
        // Transition 1 inhibits transition 2, which leaves it alone.
        due("true true", () -> z.areInConflict(1, 2) + " " + z.areInConflict(2, 1));
        z.setInhibitor(2, 2, 0);
        due("false false", () -> z.areInConflict(1, 2) + " " + z.areInConflict(2, 1));
        due("2,1,0 0,0,0,0,0", () -> markingOf(z) + " " + firingsOf(z));
        says(37, "Throws `IndexOutOfBoundsException` if `a` or `b` is not the number of a transition");
        refuses(OUT_OF_BOUNDS, a -> y.areInConflict(a, 0), NO_TRANSITION);
        refuses(OUT_OF_BOUNDS, b -> y.areInConflict(0, b), NO_TRANSITION);
    }

    private static void promises38To42() {
        PetriNet x = made(TREE);
        says(38, "Returns the number of reachable markings that the exploration has.");
        due("6 7 1", () -> x.markingCount() + " " + new PetriNet().markingCount() + " " + made("net 1 1;").markingCount());
        says(39, "Returns whether the exploration is complete.");
        PetriNet endless = made("net 2 2;out 0 0 1;out 1 1 1;");
        due("true false", () -> x.isComplete() + " " + endless.isComplete());
        says(40, "Returns the tokens of a place in a reachable marking.");
        due("0,1,1 2,0,0", () -> markingOf(x, 4) + " " + markingOf(x, 0));
        says(40, "Returns the number of tokens.");
        due("2 0", () -> x.markingTokens(5, 2) + " " + x.markingTokens(5, 1));
        says(40, "Throws `IndexOutOfBoundsException` if `place` is not the number of a place");
        PetriNet narrow = made(NARROW);
        refuses(OUT_OF_BOUNDS, place -> narrow.markingTokens(0, place), NO_PLACE);
        String noMarking = "Throws `NoSuchElementException` if there is no reachable marking with this number";
        int[] beyond = {-1, 6, 149, 150, Integer.MIN_VALUE, Integer.MAX_VALUE};
        says(40, noMarking);
        refuses(NO_ELEMENT, number -> x.markingTokens(number, 0), beyond);
        refuses(NO_ELEMENT, number -> endless.markingTokens(number, 0), 150);
        says(41, "Returns the length of the shortest way to a reachable marking.");
        // 3 tokens in one step or in three: transition 1 puts three there, transition 0 one.
        PetriNet ways = made("net 1 2;capacity 0 3;out 0 0 1;out 1 0 3;");
        due("3 1", () -> ways.markingTokens(2, 0) + " " + ways.markingDistance(2));
        says(41, "Returns the number of transitions on the way.");
        due("0 1 1 2 2 2", () -> x.markingDistance(0) + " " + x.markingDistance(1) + " " + x.markingDistance(2) + " "
            + x.markingDistance(3) + " " + x.markingDistance(4) + " " + x.markingDistance(5));
        says(41, noMarking);
        refuses(NO_ELEMENT, x::markingDistance, beyond);
        refuses(NO_ELEMENT, endless::markingDistance, 150);
        says(42, "Returns the transition by which a reachable marking was found.");
        due("0 1 0 1 1", () -> x.markingTransition(1) + " " + x.markingTransition(2) + " " + x.markingTransition(3) + " "
            + x.markingTransition(4) + " " + x.markingTransition(5));
        says(42, "Returns the number of the transition, or NONE for the marking 0.");
        due("-1 -1 1", () -> x.markingTransition(0) + " " + ways.markingTransition(0) + " " + ways.markingTransition(2));
        says(42, noMarking);
        refuses(NO_ELEMENT, x::markingTransition, beyond);
        refuses(NO_ELEMENT, endless::markingTransition, 150);
    }

    private static void promises43To48() {
        PetriNet x = made(TREE);
        PetriNet y = made(NARROW);
        String noPlace = "Throws `IndexOutOfBoundsException` if `place` is not the number of a place";
        says(43, "Returns the number of the first reachable marking in which no transition is enabled, or NONE if there is none.");
        due("3 -1", () -> x.firstDeadMarking() + " " + y.firstDeadMarking());
        due(0, () -> made("net 1 1;in 0 0 1;").firstDeadMarking());
        says(44, "Returns the number of reachable markings of the exploration in which no transition is enabled.");
        due("3 0 1", () -> x.deadMarkings() + " " + y.deadMarkings() + " " + made("net 1 1;in 0 0 1;").deadMarkings());
        says(45, "Returns the greatest number of tokens of a place in the reachable markings of the exploration.");
        x.setOutput(1, 2, 3);
        due("2 2 6", () -> x.bound(0) + " " + x.bound(1) + " " + x.bound(2));
        says(45, "Returns the number of tokens.");
        due("4 0", () -> y.bound(0) + " " + y.bound(1));
        says(45, noPlace);
        refuses(OUT_OF_BOUNDS, y::bound, NO_PLACE);
        says(46, "Tells whether a transition is enabled in some reachable marking of the exploration.");
        PetriNet z = made("net 1 4;tokens 0 3;in 0 0 1;inhibit 0 1 1;inhibit 0 2 1;in 0 2 1;in 0 3 4;");
        due("true true", () -> z.canFire(0) + " " + z.canFire(1));
        due(true, () -> made("net 1 1;tokens 0 1;in 0 0 1;").canFire(0));
        says(46, "Returns whether it is.");
        due("false false", () -> z.canFire(2) + " " + z.canFire(3));
        says(46, "Throws `IndexOutOfBoundsException` if `transition` is not the number of a transition");
        refuses(OUT_OF_BOUNDS, y::canFire, NO_TRANSITION);
        says(47, "Returns whether some marking of the exploration (any of them, also the last ones) has an enabled transition that "
            + "leads to the present marking.");
        // Down from 30 one by one, and from 0 up to 30 again.
        PetriNet ring = made("net 1 5;tokens 0 30;in 0 0 1;inhibit 0 1 1;out 1 0 9;inhibit 0 2 1;out 2 0 9;");
        due("true false", () -> new PetriNet().returnsHome() + " " + made("net 1 1;tokens 0 30;in 0 0 1;").returnsHome());
        due(true, ring::returnsHome);
        // Transition 0 alone leads home.
        due(true, () -> made("net 1 2;capacity 0 1;tokens 0 1;out 0 0 1;in 0 1 1;").returnsHome());
        ring.setInput(0, 3, 1);
        ring.setInput(0, 4, 1);
        due(false, ring::returnsHome);
        ring.setTokens(0, 9);
        due(true, ring::returnsHome);
        ring.setTokens(0, 10);
        due(false, ring::returnsHome);
        says(48, "Returns the fewest transitions after which a place can have no tokens.");
        PetriNet down = made("net 2 2;tokens 0 7;tokens 1 1;in 0 0 1;in 0 1 3;");
        due("3 2", () -> down.distanceToEmpty(0) + " " + x.distanceToEmpty(0));
        says(48, "Returns the distance of the nearest reachable marking of the exploration in which the place has no tokens, or NONE "
            + "if there is none.");
        due("-1 0 0", () -> down.distanceToEmpty(1) + " " + x.distanceToEmpty(1) + " " + x.distanceToEmpty(2));
        says(48, noPlace);
        refuses(OUT_OF_BOUNDS, y::distanceToEmpty, NO_PLACE);
    }

    private static void promises49To54() {
        PetriNet x = new PetriNet();
        String refusal = "Throws `IllegalArgumentException` if `vector` is negative or has a digit other than 0 for a place that does not "
            + "exist";
        int[] vectors = {-1, Integer.MIN_VALUE, 10000, 11011, 100000, 1000000000, Integer.MAX_VALUE};
        says(49, "Tells whether a place vector is a place invariant.");
        due("true true true", () -> x.isPlaceInvariant(1011) + " " + x.isPlaceInvariant(1100) + " " + x.isPlaceInvariant(2111));
        says(49, "Returns whether it is.");
        due("false false true", () -> x.isPlaceInvariant(1) + " " + x.isPlaceInvariant(1010) + " " + x.isPlaceInvariant(0));
        says(49, refusal);
        refuses(ARGUMENT, x::isPlaceInvariant, vectors);
        says(50, "Tells whether a transition vector is a transition invariant.");
        due("true true", () -> x.isTransitionInvariant(111) + " " + x.isTransitionInvariant(1002));
        says(50, "Returns whether it is.");
        due("false false true", () -> x.isTransitionInvariant(1) + " " + x.isTransitionInvariant(1001) + " "
            + x.isTransitionInvariant(0));
        says(50, "Throws `IllegalArgumentException` if `vector` is negative or has a digit other than 0 for a transition that does not "
            + "exist");
        refuses(ARGUMENT, x::isTransitionInvariant, vectors);
        says(51, "Returns the weighted tokens of the marking.");
        due("3 3", () -> x.weightedTokens(1011) + " " + x.weightedTokens(11));
        says(51, "Returns the sum over all places of the weight times the tokens.");
        x.setTokens(3, 2);
        due("16 3 6", () -> x.weightedTokens(4321) + " " + x.weightedTokens(11) + " " + x.weightedTokens(1111));
        says(51, refusal);
        refuses(ARGUMENT, x::weightedTokens, vectors);
        // Place 2 loses 1; 0 and 1 get 1 each, and place 3 gets 2.
        PetriNet y = made("net 4 1;in 2 0 1;out 0 0 1;out 0 1 1;out 0 3 2;");
        PetriNet none = made("net 2 1;out 0 0 1;out 0 1 1;");
        PetriNet all = made("net 3 1;");
        says(52, "Returns the number of place invariants with weights 0 and 1 of which at least one is 1.");
        due("2 2 0 7", () -> x.simpleInvariants() + " " + y.simpleInvariants() + " " + none.simpleInvariants() + " "
            + all.simpleInvariants());
        says(53, "Returns the place invariant with weights 0 and 1, of which at least one is 1, that is smallest as an int; NONE if there "
            + "is none.");
        due("1011 101 -1 1", () -> x.smallestInvariant() + " " + y.smallestInvariant() + " " + none.smallestInvariant() + " "
            + all.smallestInvariant());
        due(10000000, () -> made("net 8 1;out 0 0 1;out 0 1 1;out 0 2 1;out 0 3 1;out 0 4 1;out 0 5 1;out 0 6 1;").smallestInvariant());
        says(54, "Returns the set of the places that belong to (have the weight 1 in) some place invariant with weights 0 and 1, as the "
            + "sum of 2 to the power of their numbers.");
        due("15 7 0 7", () -> x.coveredPlaces() + " " + y.coveredPlaces() + " " + none.coveredPlaces() + " " + all.coveredPlaces());
        due("1 2", () -> made("net 2 1;out 0 1 1;").coveredPlaces() + " " + made("net 2 1;out 0 0 1;").coveredPlaces());
    }

    private static void promises55To59() {
        PetriNet x = new PetriNet();
        PetriNet y = made(NARROW);
        says(55, "Returns the tokens that a place would have after a run.");
        // The run is 1, 2, 1: transition 2 gives place 0 a token back.
        due("1 1 2 2", () -> x.tokensAfterRun(0, 0) + " " + x.tokensAfterRun(0, 1) + " " + x.tokensAfterRun(0, 2) + " "
            + x.tokensAfterRun(0, 3));
        due("1,2,1,0 2,0,0,0 0", () -> markingOf(x) + " " + firingsOf(x) + " " + x.undoCount());
        says(55, "Returns the tokens after firing at most this number of transitions by the rule of runs.");
        due("4 3 3 3 2", () -> y.tokensAfterRun(0, 0) + " " + y.tokensAfterRun(0, 1) + " " + y.tokensAfterRun(0, 2) + " "
            + y.tokensAfterRun(0, 3) + " " + y.tokensAfterRun(0, 4));
        due("0 1 1", () -> made(TREE).tokensAfterRun(0, 200) + " " + made(TREE).tokensAfterRun(1, 200) + " "
            + made(TREE).tokensAfterRun(2, 2));
        says(55, "Throws `IndexOutOfBoundsException` if `place` is not the number of a place");
        refuses(OUT_OF_BOUNDS, place -> y.tokensAfterRun(place, 1), NO_PLACE);
        says(55, "Throws `IllegalArgumentException` if `number` is out of range");
        refuses(ARGUMENT, number -> y.tokensAfterRun(0, number), -1, 201, Integer.MIN_VALUE, Integer.MAX_VALUE);
        due("4 0", () -> y.tokensAfterRun(0, 0) + " " + y.tokensAfterRun(0, 200));
        says(56, "Returns the number of transitions that a run would fire until none is enabled, or NONE if that are more than 200.");
        due("2 0 30 -1", () -> made(TREE).runLength() + " " + made("net 1 1;in 0 0 1;").runLength() + " "
            + made("net 1 1;out 0 0 1;").runLength() + " " + y.runLength());
        // Eight places with room for 25 each.
        StringBuilder rooms = new StringBuilder("net 8 8;");
        for (int i = 0; i < 8; i++) {
            rooms.append("capacity ").append(i).append(" 25;out ").append(i).append(' ').append(i).append(" 1;");
        }
        PetriNet z = made(rooms.toString());
        due(200, z::runLength);
        z.setCapacity(7, 26);
        due("-1 0", () -> z.runLength() + " " + z.totalTokens());
        says(57, "Returns the number of all tokens divided by the sum of all capacities, both converted to double.");
        due(4.0 / 60.0, y::load);
        due(4.0 / 92.0, x::load);
        due(0.0, z::load);
        due(1.0, made("net 1 1;capacity 0 1;tokens 0 1;")::load);
        says(58, "Returns the number of enabled transitions divided by the number of transitions, both converted to float.");
        due(1.0f, y::enabledShare);
        due(3.0f / 4.0f, x::enabledShare);
        y.setInput(1, 2, 1);
        due(2.0f / 3.0f, y::enabledShare);
        due(1.0f, made("net 1 1;")::enabledShare);
        due(0.0f, made("net 1 1;in 0 0 1;")::enabledShare);
        says(59, "Returns the number of violations: places with fewer than 0 tokens or more than their capacity, and simple place "
            + "invariants (see simpleInvariants()) whose weighted tokens are not the same in all reachable markings of the "
            + "exploration; it is always 0.");
        due("0 0 0", () -> x.violations() + " " + y.violations() + " " + z.violations());
        x.setTokens(3, 2);
        x.run(9);
        x.reverseNet();
        due("0 0", () -> x.violations() + " " + made("net 8 10;tokens 0 30;").violations());
    }

    private static void promises60And61() {
        PetriNet x = made("net 3 5;tokens 0 30;tokens 1 7;in 2 1 1;out 3 0 1;");
        says(61, "Returns the byte, or NONE if the report has no such byte or nothing was written.");
        due("-1 -1", () -> x.reportByte(0) + " " + x.reportByte(-1));
        says(60, "Writes the marking as a report, in place of the previous report: the tokens of the places in ascending order, separated "
            + "by commas; then a space and the numbers of the enabled transitions in ascending order, separated by commas, or a hyphen "
            + "if none is enabled.");
        due("30,7,0 0,2,4", () -> report(x));
        due("10,9,29,20,11 3", () -> report(made("net 5 4;tokens 0 10;tokens 1 9;tokens 2 29;tokens 3 20;tokens 4 11;in 1 0 9;"
            + "inhibit 0 0 1;inhibit 1 1 9;capacity 2 29;out 2 2 1;")));
        due("0 -", () -> report(made("net 1 1;in 0 0 1;")));
        due("0 0", () -> report(made("net 1 1;")));
        says(60, "Returns the length of the report in bytes.");
        due("12 3", () -> x.writeMarking() + " " + made("net 1 1;").writeMarking());
        says(61, "Returns a byte of the report.");
        due("51 48 44 55", () -> x.reportByte(0) + " " + x.reportByte(1) + " " + x.reportByte(2) + " " + x.reportByte(3));
        says(61, "Returns the byte, or NONE if the report has no such byte or nothing was written.");
        due("52 -1 -1", () -> x.reportByte(11) + " " + x.reportByte(12) + " " + x.reportByte(-1));
        refuses("-1", number -> String.valueOf(x.reportByte(number)), 13, 1000, Integer.MIN_VALUE, Integer.MAX_VALUE);
        script(x, "net 1 1;");
        x.writeMarking();
        due("48 32 48 -1 -1", () -> x.reportByte(0) + " " + x.reportByte(1) + " " + x.reportByte(2) + " " + x.reportByte(3) + " "
            + x.reportByte(11));
    }

    private static void notPromised() {
        saysNothing("How the state is held inside the object is free, as are the speed of each call, the text of toString and the "
            + "behaviour of equals and hashCode.");
        saysNothing("Use of one object from several threads at once is not promised to be safe.");
        saysNothing("Nothing is promised beyond the answers and state changes described above, and nothing about an object after its "
            + "512th call.");
    }

    /** The sentences of the document, each behind the number of its promise. */
    private static List<String> sentencesOfDocument() throws IOException {
        List<String> found = new ArrayList<>();
        int section = NO_PROMISE;
        String code = "";
        for (String line : Files.readAllLines(DOCUMENT)) {
            if (line.startsWith("```")) {
                code = code.isEmpty() ? line : "";
            } else if (line.startsWith("#")) {
                section = line.startsWith("## Promise ") ? Integer.parseInt(line.replaceAll("[^0-9]*([0-9]+):.*", "$1")) : NO_PROMISE;
            } else if (code.equals("```text")) {
                found.add(section + ": " + line.trim());
            } else if (code.isEmpty() && saysAnAnswer(line)) {
                addSentences(found, section, line);
            }
        }
        return found;
    }

    /** The lines of parameters say what the lines of exceptions say again, and the face has a test of its own. */
    private static boolean saysAnAnswer(String line) {
        return !line.isEmpty() && !line.startsWith("- ") && !line.startsWith("Ahead of the calls ");
    }

    private static void addSentences(List<String> found, int section, String line) {
        // Ahead of the first sentence stands the head of the method, or the name of the paragraph.
        String head = section == NO_PROMISE ? "^[A-Z][a-z]+( [a-z]+)?[.] " : "^`[^`]*`: ";
        for (String sentence : line.replaceFirst(head, "").split("(?<=[.]) (?=[A-Z\"])")) {
            found.add(section + ": " + sentence);
        }
    }

    private static void compareWithDocument() throws IOException {
        if (!Files.isReadable(DOCUMENT)) {
            System.out.println("there is no " + DOCUMENT + " that the sentences could be compared with");
            return;
        }
        List<String> written = sentencesOfDocument();
        for (String sentence : written) {
            if (!cited.contains(sentence)) {
                wrong++;
                System.out.println("no test of " + sentence);
            }
        }
        for (String sentence : cited) {
            if (!written.contains(sentence)) {
                wrong++;
                System.out.println("not in the document: " + sentence);
            }
        }
    }

    public static void main(String[] args) throws IOException {
        whatItIs();
        termsOfNets();
        termsOfFiring();
        termsOfRuns();
        termsOfMarkings();
        fullExploration();
        termsOfInvariants();
        termsOfScripts();
        termsOfUndo();
        constants();
        promise1();
        promises2To5();
        promises6And7();
        promises8To10();
        promises11And12();
        promises13And14();
        promises15To18();
        promises19To26();
        promises27To29();
        promises30To35();
        promises36And37();
        promises38To42();
        promises43To48();
        promises49To54();
        promises55To59();
        promises60And61();
        notPromised();
        seeThatLatestIsChecked();
        compareWithDocument();
        finish();
    }
}
