/**
 * The edges of the net and of its markings: nothing there yet, everything full, the last one that
 * still fits and the first one that does not, and numbers that must not wrap around.
 */
public final class EdgesTest extends Checks {
    private static void newObject() {
        PetriNet x = new PetriNet();
        begin(1, "the input buffer is empty, and nothing can be undone");
        due("0 0 -1", () -> x.inputLength() + " " + x.undoCount() + " " + x.undo());
        begin(1, "nothing there yet: no snapshot, no script error, no report");
        due(NO_ELEMENT, x::restoreSnapshot);
        due("0 at -1", () -> errorOf(x));
        due("-1 -1", () -> x.reportByte(0) + " " + x.reportByte(-1));
        begin(1, "the net of the script, its two firings counted");
        due("2 0 0 0", () -> x.firings(0) + " " + x.firings(1) + " " + x.firings(2) + " " + x.firings(3));
        due("1,2,1,0 0,1,3", () -> report(x));
        due("30 30 30 2", () -> x.capacity(0) + " " + x.capacity(1) + " " + x.capacity(2) + " " + x.capacity(3));
        due("1 0 0, 0 1 0, 0 0 0, 0 0 0, 0 0 0, 1 0 0, 1 0 0, 0 1 0, 0 1 0, 0 0 0, 0 1 0, 1 0 0, "
            + "0 2 0, 2 0 0, 0 0 0, 0 0 1, ", () -> weightsOf(x));
        begin(1, "the markings of a new object, asked for at once");
        due("7 true 1", () -> {
            PetriNet y = new PetriNet();
            return y.markingCount() + " " + y.isComplete() + " " + y.bound(3);
        });
        begin(1, "an object shares nothing with another one");
        due("1,2,1,0 0,1,3", () -> report(new PetriNet()));
        due(true, () -> weightsOf(new PetriNet()).startsWith("1 0 0, 0 1 0, "));
    }

    private static void tokensAtTheWeight() {
        begin(30, "enabled if the tokens are at least the input weight");
        PetriNet x = made("net 1 1;in 0 0 9;tokens 0 9;");
        due("0 -1 1", () -> x.whyNotEnabled(0) + " " + x.blockingPlace(0) + " " + x.enabledTransitions());
        x.setTokens(0, 8);
        due("1 0 0", () -> x.whyNotEnabled(0) + " " + x.blockingPlace(0) + " " + x.enabledTransitions());
        x.setTokens(0, 30);
        due(0, () -> x.whyNotEnabled(0));
        PetriNet y = made("net 1 1;in 0 0 1;");
        due(1, () -> y.whyNotEnabled(0));
        y.setTokens(0, 1);
        due(0, () -> y.whyNotEnabled(0));
    }

    private static void tokensAtTheLimit() {
        begin(30, "the inhibitor limit is 0 or the tokens are less than it");
        PetriNet x = made("net 1 1;inhibit 0 0 9;tokens 0 8;");
        due("0 -1", () -> x.whyNotEnabled(0) + " " + x.blockingPlace(0));
        x.setTokens(0, 9);
        due("2 0", () -> x.whyNotEnabled(0) + " " + x.blockingPlace(0));
        x.setTokens(0, 30);
        due("2 0", () -> x.whyNotEnabled(0) + " " + x.blockingPlace(0));
        x.setInhibitor(0, 0, 0);
        due("0 -1", () -> x.whyNotEnabled(0) + " " + x.blockingPlace(0));
        PetriNet y = made("net 1 1;inhibit 0 0 1;");
        due(0, () -> y.whyNotEnabled(0));
        y.setTokens(0, 1);
        due(2, () -> y.whyNotEnabled(0));
    }

    private static void tokensAtTheCapacity() {
        begin(30, "the tokens minus the input weight plus the output weight are not greater than the capacity");
        PetriNet x = made("net 1 1;out 0 0 9;tokens 0 21;");
        due("0 -1", () -> x.whyNotEnabled(0) + " " + x.blockingPlace(0));
        x.setTokens(0, 22);
        due("3 0", () -> x.whyNotEnabled(0) + " " + x.blockingPlace(0));
        x.setInput(0, 0, 1);
        due("0 -1", () -> x.whyNotEnabled(0) + " " + x.blockingPlace(0));
        due("1 30 3", () -> x.fire(0) + " " + x.tokens(0) + " " + x.whyNotEnabled(0));
        x.setInput(0, 0, 9);
        due("0 2 30", () -> x.whyNotEnabled(0) + " " + x.fire(0) + " " + x.tokens(0));
        PetriNet y = made("net 1 1;out 0 0 1;capacity 0 1;");
        due("0 1 3", () -> y.whyNotEnabled(0) + " " + y.fire(0) + " " + y.whyNotEnabled(0));
        PetriNet full = made("net 2 1;capacity 0 3;tokens 0 3;tokens 1 30;");
        due(0, () -> full.whyNotEnabled(0));
    }

    private static void orderOfReasons() {
        begin(31, "the first place for which the first reason applies");
        // Place 0 has no space, 1 and 2 inhibit, 3 and 4 have too few tokens, 5 has nothing to say.
        PetriNet x = made("net 6 1;capacity 0 1;tokens 0 1;out 0 0 1;tokens 1 1;inhibit 1 0 1;tokens 2 1;inhibit 2 0 1;"
            + "in 3 0 1;in 4 0 1;");
        due("1 3", () -> x.whyNotEnabled(0) + " " + x.blockingPlace(0));
        x.setTokens(3, 1);
        due("1 4", () -> x.whyNotEnabled(0) + " " + x.blockingPlace(0));
        x.setTokens(4, 1);
        due("2 1", () -> x.whyNotEnabled(0) + " " + x.blockingPlace(0));
        x.setTokens(1, 0);
        due("2 2", () -> x.whyNotEnabled(0) + " " + x.blockingPlace(0));
        x.setTokens(2, 0);
        due("3 0", () -> x.whyNotEnabled(0) + " " + x.blockingPlace(0));
        x.setTokens(0, 0);
        due("0 -1", () -> x.whyNotEnabled(0) + " " + x.blockingPlace(0));
        begin(31, "all reasons at one place, and the last place of the largest net");
        PetriNet y = made("net 8 10;capacity 7 5;tokens 7 5;in 7 9 6;inhibit 7 9 5;out 9 7 7;");
        due("1 7", () -> y.whyNotEnabled(9) + " " + y.blockingPlace(9));
        y.setInput(7, 9, 5);
        due("2 7", () -> y.whyNotEnabled(9) + " " + y.blockingPlace(9));
        y.setInhibitor(7, 9, 6);
        due("3 7", () -> y.whyNotEnabled(9) + " " + y.blockingPlace(9));
        y.setOutput(9, 7, 5);
        due("0 -1", () -> y.whyNotEnabled(9) + " " + y.blockingPlace(9));
    }

    private static void changesThatChangeNothing() {
        begin(15, "each call of a change that does not throw an exception can be undone");
        PetriNet x = made("net 1 1;in 0 0 1;");
        due("0 2", () -> x.setTokens(0, 0) + " " + x.undoCount());
        due("30 3", () -> x.setCapacity(0, 30) + " " + x.undoCount());
        due("1 4", () -> x.setInput(0, 0, 1) + " " + x.undoCount());
        due("0 5", () -> x.setOutput(0, 0, 0) + " " + x.undoCount());
        due("0 6", () -> x.setInhibitor(0, 0, 0) + " " + x.undoCount());
        due("0 7", () -> x.run(200) + " " + x.undoCount());
        due("0 8", () -> x.moveToMarking(0) + " " + x.undoCount());
        begin(15, "what is no change cannot be undone");
        x.saveSnapshot();
        x.writeMarking();
        x.append(0, 0, 0, 0, 0);
        x.truncateInput(0);
        x.firesInRow(0);
        x.tokensAfterRun(0, 200);
        x.runLength();
        x.markingCount();
        x.runScript();
        due(8, x::undoCount);
    }

    private static void tenChanges() {
        PetriNet x = new PetriNet();
        begin(16, "the simulator remembers the latest 10");
        for (int i = 1; i <= 25; i++) {
            x.setTokens(0, i);
            final int want = Math.min(i, 10);
            due(want, x::undoCount);
        }
        begin(15, "the latest one first, and the number of changes that can still be undone");
        for (int i = 24; i >= 15; i--) {
            due(i - 15 + " " + i, () -> x.undo() + " " + x.tokens(0));
        }
        due("-1 15 0", () -> x.undo() + " " + x.tokens(0) + " " + x.undoCount());
        due("-1 15 0", () -> x.undo() + " " + x.tokens(0) + " " + x.undoCount());
        begin(15, "the latest change that has not been undone");
        x.setTokens(0, 1);
        x.setTokens(0, 2);
        due("1 1", () -> x.undo() + " " + x.tokens(0));
        x.setTokens(0, 3);
        due("1 1", () -> x.undo() + " " + x.tokens(0));
        due("0 15", () -> x.undo() + " " + x.tokens(0));
        due(-1, x::undo);
        begin(16, "an undone change makes room for one");
        for (int i = 0; i < 10; i++) {
            x.setTokens(0, i);
        }
        due("9 8 10", () -> x.undo() + " " + x.setTokens(0, 20) + " " + x.undoCount());
        x.setTokens(0, 21);
        due(10, x::undoCount);
        for (int i = 0; i < 10; i++) {
            x.undo();
        }
        due("-1 0", () -> x.undo() + " " + x.tokens(0));
    }

    /** Each change as the latest and as the oldest of the ten that are kept. */
    private static void everyChangeIsCountedAndUndone() {
        begin(15, "undoing restores everything");
        String text = "net 2 2;tokens 0 5;capacity 1 9;tokens 1 3;in 0 0 1;out 0 1 2;inhibit 1 1 8;in 0 1 1;fire 0;";
        for (int kind = 0; kind < 10; kind++) {
            PetriNet x = made(text);
            String before = stateOf(x);
            due(true, changes(x)[kind]);
            due("1 " + before, () -> x.undo() + " " + stateOf(x));
            due(true, changes(x)[kind]);
            for (int i = 0; i < 9; i++) {
                x.setTokens(1, 0);
            }
            due(10, x::undoCount);
            for (int i = 0; i < 10; i++) {
                x.undo();
            }
            due("-1 " + before, () -> x.undo() + " " + stateOf(x));
            due(weightsOf(made(text)), () -> weightsOf(x));
        }
    }

    /** One call of each change; each is done without an exception. */
    private static Call[] changes(PetriNet x) {
        return new Call[] {
            () -> script(x, "net 8 10;tokens 7 30;in 7 9 9;out 9 7 9;inhibit 7 9 9;capacity 0 1;run 1;") == 30,
            () -> x.setTokens(0, 30) == 4,
            () -> x.setCapacity(0, 4) == 30,
            () -> x.setInput(1, 1, 9) == 0,
            () -> x.setOutput(1, 1, 9) == 0,
            () -> x.setInhibitor(0, 0, 9) == 0,
            () -> x.fire(0) == 2,
            () -> x.run(3) == 3,
            () -> x.moveToMarking(1) == 1,
            () -> x.reverseNet() == 2,
        };
    }

    private static void snapshots() {
        PetriNet x = new PetriNet();
        begin(18, "nothing there yet: no snapshot was saved");
        due(NO_ELEMENT, x::restoreSnapshot);
        x.fire(0);
        x.undo();
        due(NO_ELEMENT, x::restoreSnapshot);
        begin(17, "this is not a change");
        x.fire(0);
        due("4 1", () -> x.saveSnapshot() + " " + x.undoCount());
        due("0 1,2,1,0 0,1,3", () -> x.undo() + " " + report(x));
        begin(18, "the snapshot stays saved, and nothing can be undone afterwards");
        for (int i = 0; i < 3; i++) {
            due("4 0 -1", () -> x.restoreSnapshot() + " " + x.undoCount() + " " + x.undo());
            due("0,3,1,0 1,3 3", () -> report(x) + " " + x.firings(0));
            for (int tokens = 0; tokens < 12; tokens++) {
                x.setTokens(0, tokens);
            }
            due(10, x::undoCount);
        }
        begin(17, "in place of an earlier one");
        due("15 15", () -> x.saveSnapshot() + " " + x.restoreSnapshot());
        script(x, "net 1 1;tokens 0 7;run 200;");
        due("7 200", () -> x.saveSnapshot() + " " + x.firings(0));
        script(x, "net 8 10;");
        begin(18, "everything that undo restores");
        due("7 1 1 200 30", () -> x.restoreSnapshot() + " " + x.placeCount() + " " + x.transitionCount() + " "
            + x.firings(0) + " " + x.capacity(0));
        begin(17, "the fewest and the most tokens");
        script(x, "net 1 1;");
        due("0 0", () -> x.saveSnapshot() + " " + x.restoreSnapshot());
        script(x, "net 8 1;tokens 0 30;tokens 1 30;tokens 2 30;tokens 3 30;tokens 4 30;tokens 5 30;tokens 6 30;tokens 7 30;");
        due("240 240", () -> x.saveSnapshot() + " " + x.restoreSnapshot());
    }

    private static void whatUndoLeavesAlone() {
        begin(15, "everything except the input buffer, the script error, the report and the snapshot");
        PetriNet x = new PetriNet();
        x.setTokens(0, 2);
        x.saveSnapshot();
        script(x, "net");
        x.setTokens(0, 3);
        x.writeMarking();
        type(x, "net 1 1;");
        due("1 0 -1", () -> x.undo() + " " + x.undo() + " " + x.undo());
        due("8 1 at 3 3,2,1,0", () -> x.inputLength() + " " + errorOf(x) + " " + bytesOfReport(x, 7));
        due("5 2", () -> x.restoreSnapshot() + " " + x.tokens(0));
        due("8 1 at 3 3,2,1,0", () -> x.inputLength() + " " + errorOf(x) + " " + bytesOfReport(x, 7));
        due("0 1", () -> x.runScript() + " " + x.placeCount());
    }

    private static void firingsAreCounted() {
        begin(11, "the number of its firings so far, and no wrap-around of it");
        PetriNet x = made("net 1 1;fire 0;");
        due(2, () -> x.fire(0));
        for (int i = 0; i < 330; i++) {
            x.run(200);
        }
        // 66002 is more than a short or a char can hold.
        due(66003, () -> x.fire(0));
        begin(34, "the firings are counted whoever fired it");
        due(66003, () -> x.firings(0));
        due("1000 66003", () -> x.firesInRow(0) + " " + x.firings(0));
        x.saveSnapshot();
        script(x, "net 1 1;");
        begin(34, "all firings are counted from 0 after a script");
        due(0, () -> x.firings(0));
        x.undo();
        due(66003, () -> x.firings(0));
        script(x, "net 1 1;");
        x.restoreSnapshot();
        due(66003, () -> x.firings(0));
        begin(34, "undo takes firings back, a move to a marking and a prediction count none");
        PetriNet y = made("net 1 2;out 0 0 1;in 0 1 1;");
        y.moveToMarking(30);
        y.runLength();
        y.tokensAfterRun(0, 200);
        due("30 0 0", () -> y.tokens(0) + " " + y.firings(0) + " " + y.firings(1));
        y.run(1);
        due("0 1", () -> y.firings(0) + " " + y.firings(1));
        y.undo();
        due("0 0", () -> y.firings(0) + " " + y.firings(1));
        begin(34, "changes of the net leave the firings alone");
        y.run(3);
        y.reverseNet();
        y.setTokens(0, 1);
        y.setInput(0, 0, 1);
        due("1 2", () -> y.firings(0) + " " + y.firings(1));
    }

    private static void runs() {
        // 200 firings in all: a place for each transition, with room for 28 or 29 tokens.
        PetriNet x = made("net 7 7;capacity 0 28;capacity 1 28;capacity 2 28;capacity 3 29;capacity 4 29;capacity 5 29;"
            + "capacity 6 29;out 0 0 1;out 1 1 1;out 2 2 1;out 3 3 1;out 4 4 1;out 5 5 1;out 6 6 1;");
        begin(56, "the number of transitions that a run would fire, or NONE if that are more than 200");
        due(200, x::runLength);
        x.setCapacity(0, 29);
        due(-1, x::runLength);
        x.setTokens(0, 1);
        due(200, x::runLength);
        x.setTokens(0, 2);
        due(199, x::runLength);
        begin(12, "the smallest and the largest number");
        due("1 198", () -> x.run(1) + " " + x.runLength());
        due("198 0 0", () -> x.run(200) + " " + x.run(200) + " " + x.runLength());
        due(true, x::isDead);
        PetriNet endless = made("net 1 1;");
        due("200 -1", () -> endless.run(200) + " " + endless.runLength());
        begin(35, "NONE if none is enabled");
        due(-1, x::nextOfRun);
        x.setTokens(6, 28);
        due(6, x::nextOfRun);
        begin(55, "0 to 200");
        due("28 29 29", () -> x.tokensAfterRun(6, 0) + " " + x.tokensAfterRun(6, 1) + " " + x.tokensAfterRun(6, 200));
        PetriNet longer = made("net 8 1;tokens 0 30;in 0 0 1;");
        due("30 29 1 0 0", () -> longer.tokensAfterRun(0, 0) + " " + longer.tokensAfterRun(0, 1) + " "
            + longer.tokensAfterRun(0, 29) + " " + longer.tokensAfterRun(0, 30) + " " + longer.tokensAfterRun(0, 200));
        due(30, () -> longer.tokens(0));
        // Transition 0 puts a token there and 1 takes it away, in turn.
        PetriNet even = made("net 1 2;out 0 0 1;in 0 1 1;");
        due("1 0", () -> even.tokensAfterRun(0, 199) + " " + even.tokensAfterRun(0, 200));
    }

    private static void theRuleOfRuns() {
        begin(35, "the smallest number of firings so far, of several the one with the smallest number");
        PetriNet x = made("net 1 10;");
        for (int t = 0; t < 10; t++) {
            final int want = t;
            due(want + " 1 1", () -> x.nextOfRun() + " " + x.run(1) + " " + x.firings(want));
        }
        due(0, x::nextOfRun);
        PetriNet y = made("net 2 3;fire 0;fire 0;fire 1;fire 2;");
        due(1, y::nextOfRun);
        y.setInput(0, 1, 1);
        due(2, y::nextOfRun);
        y.setInput(0, 2, 1);
        due(0, y::nextOfRun);
        y.setInput(0, 0, 1);
        due(-1, y::nextOfRun);
    }

    private static void firesInRow() {
        begin(36, "the number of times, at most 1000");
        PetriNet x = made("net 1 5;tokens 0 30;in 0 0 1;out 1 0 1;in 0 2 9;out 2 0 9;in 0 4 9;");
        due("30 0 1000 1000 3", () -> x.firesInRow(0) + " " + x.firesInRow(1) + " " + x.firesInRow(2) + " " + x.firesInRow(3)
            + " " + x.firesInRow(4));
        x.setTokens(0, 0);
        due("0 30 0 1000 0", () -> x.firesInRow(0) + " " + x.firesInRow(1) + " " + x.firesInRow(2) + " " + x.firesInRow(3)
            + " " + x.firesInRow(4));
        x.setInhibitor(0, 1, 9);
        due(9, () -> x.firesInRow(1));
        due("0 0", () -> x.tokens(0) + " " + x.firings(1));
    }

    private static void conflicts() {
        begin(37, "both are enabled, and after firing one of them the other one is not");
        PetriNet x = made("net 1 3;tokens 0 2;in 0 0 1;in 0 1 1;in 0 2 3;");
        due("false false", () -> x.areInConflict(0, 1) + " " + x.areInConflict(1, 0));
        due("false false", () -> x.areInConflict(0, 2) + " " + x.areInConflict(2, 0));
        x.setTokens(0, 1);
        due("true true", () -> x.areInConflict(0, 1) + " " + x.areInConflict(1, 0));
        x.setTokens(0, 0);
        due("false false", () -> x.areInConflict(0, 1) + " " + x.areInConflict(1, 0));
        begin(37, "for at least one of the two orders");
        PetriNet space = made("net 1 2;tokens 0 28;out 0 0 1;out 1 0 2;");
        due("true true", () -> space.areInConflict(0, 1) + " " + space.areInConflict(1, 0));
        space.setTokens(0, 27);
        due("false false", () -> space.areInConflict(0, 1) + " " + space.areInConflict(1, 0));
        PetriNet limit = made("net 1 2;out 0 0 1;inhibit 0 1 1;");
        due("true true", () -> limit.areInConflict(0, 1) + " " + limit.areInConflict(1, 0));
        limit.setInhibitor(0, 1, 2);
        due("false false", () -> limit.areInConflict(0, 1) + " " + limit.areInConflict(1, 0));
    }

    /** 149, 150 or 151 markings: counters down from 9 and 14, as long as place 2 lasts, and then place 3. */
    private static PetriNet grid(int budget, int roomAtTheEnd) {
        return made("net 5 4;tokens 0 9;tokens 1 14;tokens 2 " + budget + ";capacity 3 1;tokens 3 " + (1 - roomAtTheEnd)
            + ";tokens 4 1;in 0 0 1;in 1 1 1;in 2 0 1;in 2 1 1;inhibit 0 2 1;inhibit 1 2 1;out 2 3 1;in 4 2 1;in 3 3 2;");
    }

    private static void fullExploration() {
        PetriNet below = grid(22, 0);
        PetriNet just = grid(23, 0);
        PetriNet beyond = grid(23, 1);
        begin(38, "the exploration stops when it has 150 markings");
        due("149 150 150", () -> below.markingCount() + " " + just.markingCount() + " " + beyond.markingCount());
        begin(39, "it is complete if no further marking would have been found");
        due("true true false", () -> below.isComplete() + " " + just.isComplete() + " " + beyond.isComplete());
        begin(40, "the last marking and the one beyond it");
        due("1 0 0", () -> below.markingTokens(148, 0) + " " + just.markingTokens(149, 0) + " " + beyond.markingTokens(149, 1));
        due(NO_ELEMENT, () -> below.markingTokens(149, 0));
        due(NO_ELEMENT, () -> just.markingTokens(150, 0));
        due(NO_ELEMENT, () -> beyond.markingTokens(150, 0));
        begin(41, "the last marking and the one beyond it");
        due("22 23 23", () -> below.markingDistance(148) + " " + just.markingDistance(149) + " " + beyond.markingDistance(149));
        due(NO_ELEMENT, () -> below.markingDistance(149));
        due(NO_ELEMENT, () -> just.markingDistance(150));
        due(NO_ELEMENT, () -> beyond.markingDistance(150));
        begin(42, "the last marking and the one beyond it");
        due("1 1", () -> just.markingTransition(149) + " " + beyond.markingTransition(149));
        due(NO_ELEMENT, () -> just.markingTransition(150));
        due(NO_ELEMENT, () -> beyond.markingTransition(150));
        begin(13, "the last marking and the one beyond it");
        due(NO_ELEMENT, () -> just.moveToMarking(150));
        due(NO_ELEMENT, () -> beyond.moveToMarking(150));
        due(1, beyond::undoCount);
        due("23 0,0,0,0,1 2", () -> beyond.moveToMarking(149) + " " + report(beyond));
        due("2 true", () -> beyond.markingCount() + " " + beyond.isComplete());
        beyond.undo();
        due("150 false", () -> beyond.markingCount() + " " + beyond.isComplete());
    }

    /** Whatever stands in the 151st marking alone is not seen. */
    private static void theMarkingThatIsNotExplored() {
        PetriNet just = grid(23, 0);
        PetriNet beyond = grid(23, 1);
        begin(43, "NONE if there is none");
        due("149 -1", () -> just.firstDeadMarking() + " " + beyond.firstDeadMarking());
        begin(44, "the number of reachable markings of the exploration");
        due("1 0", () -> just.deadMarkings() + " " + beyond.deadMarkings());
        begin(45, "the greatest number of tokens in the reachable markings of the exploration");
        due("1 0", () -> just.bound(3) + " " + beyond.bound(3));
        begin(46, "enabled in some reachable marking of the exploration");
        due("false true", () -> just.canFire(2) + " " + beyond.canFire(2));
        due(false, () -> beyond.canFire(3));
        begin(48, "NONE if there is none");
        due("-1 -1", () -> just.distanceToEmpty(4) + " " + beyond.distanceToEmpty(4));
        due("9 14 23", () -> beyond.distanceToEmpty(0) + " " + beyond.distanceToEmpty(1) + " " + beyond.distanceToEmpty(2));
        begin(59, "it is always 0");
        due("0 0", () -> just.violations() + " " + beyond.violations());
        begin(48, "with fewer markings all of them are seen");
        beyond.setTokens(0, 8);
        due("136 true", () -> beyond.markingCount() + " " + beyond.isComplete());
        due("23 1 135 1 true", () -> beyond.distanceToEmpty(4) + " " + beyond.bound(3) + " " + beyond.firstDeadMarking() + " "
            + beyond.deadMarkings() + " " + beyond.canFire(2));
    }

    private static void smallestExploration() {
        PetriNet dead = made("net 1 1;tokens 0 1;in 0 0 2;");
        PetriNet idle = made("net 8 10;");
        begin(38, "the present marking alone");
        due("1 1", () -> dead.markingCount() + " " + idle.markingCount());
        begin(39, "the present marking alone");
        due("true true", () -> dead.isComplete() + " " + idle.isComplete());
        begin(41, "the marking 0");
        due("0 0", () -> dead.markingDistance(0) + " " + idle.markingDistance(0));
        begin(42, "NONE for the marking 0");
        due("-1 -1", () -> dead.markingTransition(0) + " " + idle.markingTransition(0));
        begin(43, "the number of the first one, or NONE");
        due("0 -1", () -> dead.firstDeadMarking() + " " + idle.firstDeadMarking());
        begin(44, "none and one");
        due("1 0", () -> dead.deadMarkings() + " " + idle.deadMarkings());
        begin(45, "the present marking counts");
        due("1 0", () -> dead.bound(0) + " " + idle.bound(7));
        begin(46, "no marking and every marking");
        due("false true", () -> dead.canFire(0) + " " + idle.canFire(9));
        begin(47, "the present marking itself");
        due("false true", () -> dead.returnsHome() + " " + idle.returnsHome());
        begin(48, "NONE, and 0 for a place that is empty already");
        due("-1 0", () -> dead.distanceToEmpty(0) + " " + idle.distanceToEmpty(7));
        begin(40, "the largest number of tokens");
        PetriNet full = made("net 8 1;tokens 0 30;tokens 7 30;tokens 3 1;");
        due("30 0 1 30", () -> full.markingTokens(0, 0) + " " + full.markingTokens(0, 1) + " " + full.markingTokens(0, 3) + " "
            + full.markingTokens(0, 7));
        begin(42, "the first and the last transition");
        PetriNet all = made("net 8 10;out 0 0 9;out 9 7 9;capacity 0 9;capacity 7 9;");
        due("0 9 9", () -> all.markingTransition(1) + " " + all.markingTransition(2) + " " + all.markingTransition(3));
        due("0,9 4", () -> all.markingTokens(2, 0) + "," + all.markingTokens(2, 7) + " " + all.markingCount());
    }

    private static void homeOnlyFromTheLastMarking() {
        begin(47, "any of them, also the last ones");
        // Down from 9, 4 and 2, 150 markings; transition 3 leads home from 0, 0 and 0, the last one, alone.
        PetriNet x = made("net 3 4;tokens 0 9;tokens 1 4;tokens 2 2;in 0 0 1;in 1 1 1;in 2 2 1;inhibit 0 3 1;inhibit 1 3 1;"
            + "inhibit 2 3 1;out 3 0 9;out 3 1 4;out 3 2 2;");
        due("150 true true", () -> x.markingCount() + " " + x.isComplete() + " " + x.returnsHome());
        x.setOutput(3, 2, 1);
        due("150 true false", () -> x.markingCount() + " " + x.isComplete() + " " + x.returnsHome());
        begin(47, "by the first or by the last transition alone");
        PetriNet first = made("net 2 10;out 0 1 1;out 9 0 1;in 1 0 1;in 0 9 1;in 1 1 9;in 1 2 9;in 1 3 9;in 1 4 9;in 1 5 9;"
            + "in 1 6 9;in 1 7 9;in 1 8 9;");
        due(false, first::returnsHome);
        first.setInput(1, 0, 0);
        first.setOutput(0, 1, 0);
        due(true, first::returnsHome);
        first.setInput(1, 0, 1);
        first.setInput(0, 9, 0);
        first.setOutput(9, 0, 0);
        due(true, first::returnsHome);
        begin(47, "markings that are not explored lead nowhere");
        x.setOutput(3, 2, 2);
        x.setCapacity(2, 3);
        x.setTokens(2, 3);
        x.setOutput(3, 2, 3);
        due("150 false false", () -> x.markingCount() + " " + x.isComplete() + " " + x.returnsHome());
    }

    private static void explorationAfterChanges() {
        begin(38, "the markings that can be reached from the present one");
        PetriNet x = made("net 1 2;tokens 0 3;in 0 0 1;");
        x.setInput(0, 1, 9);
        due(4, x::markingCount);
        x.setTokens(0, 30);
        due(31, x::markingCount);
        x.undo();
        due(4, x::markingCount);
        x.fire(0);
        due(3, x::markingCount);
        x.run(1);
        due(2, x::markingCount);
        x.saveSnapshot();
        x.moveToMarking(1);
        due(1, x::markingCount);
        x.reverseNet();
        due(31, x::markingCount);
        x.setCapacity(0, 20);
        due(21, x::markingCount);
        x.restoreSnapshot();
        due(2, x::markingCount);
        x.setInhibitor(0, 0, 1);
        due(1, x::markingCount);
        x.setOutput(1, 0, 1);
        x.setInput(0, 1, 0);
        due(31 - 1, x::markingCount);
        script(x, "net 1 1;");
        due(1, x::markingCount);
    }

    private static void reversedNets() {
        begin(14, "the number of transitions that are enabled afterwards: none and all");
        PetriNet x = made("net 8 10;");
        due("10 10", () -> x.reverseNet() + " " + x.reverseNet());
        PetriNet y = made("net 1 2;out 0 0 9;out 1 0 9;");
        due("0 2", () -> y.reverseNet() + " " + y.reverseNet());
        begin(14, "all input weights with the output weights; inhibitor limits stay");
        PetriNet z = made("net 8 10;in 7 9 9;out 0 0 8;inhibit 7 9 7;inhibit 0 0 6;in 3 4 5;out 4 3 2;tokens 0 7;");
        due("8 2 0", () -> z.reverseNet() + " " + z.undoCount() + " " + z.enabledTransitions() % 2);
        due("0 9 7", () -> z.setInput(7, 9, 0) + " " + z.setOutput(9, 7, 0) + " " + z.setInhibitor(7, 9, 0));
        due("8 0 6", () -> z.setInput(0, 0, 0) + " " + z.setOutput(0, 0, 0) + " " + z.setInhibitor(0, 0, 0));
        due("2 5 0", () -> z.setInput(3, 4, 0) + " " + z.setOutput(4, 3, 0) + " " + z.setInhibitor(3, 4, 0));
    }

    private static void sets() {
        PetriNet none = made("net 8 10;");
        StringBuilder text = new StringBuilder("net 8 10;");
        for (int p = 0; p < 8; p++) {
            text.append("in ").append(p).append(" 9 1;out 9 ").append(p).append(" 1;");
        }
        for (int t = 0; t < 9; t++) {
            text.append("in 7 ").append(t).append(" 9;");
        }
        PetriNet all = made(text.toString());
        begin(27, "no place and all places");
        due("0 255 128", () -> none.inputPlaces(9) + " " + all.inputPlaces(9) + " " + all.inputPlaces(0));
        begin(28, "no place and all places");
        due("0 255 0", () -> none.outputPlaces(9) + " " + all.outputPlaces(9) + " " + all.outputPlaces(0));
        begin(29, "no transition and all transitions");
        due("0 1023 512", () -> none.consumers(7) + " " + all.consumers(7) + " " + all.consumers(0));
        begin(32, "no transition and all transitions");
        due("1023 0", () -> none.enabledTransitions() + " " + all.enabledTransitions());
        begin(33, "no transition is enabled, and just one is");
        due("false true", () -> none.isDead() + " " + all.isDead());
        all.setTokens(7, 9);
        due("511 false", () -> all.enabledTransitions() + " " + all.isDead());
        begin(21, "the fewest and the most places");
        due("8 1", () -> none.placeCount() + " " + made("net 1 10;").placeCount());
        begin(22, "the fewest and the most transitions");
        due("10 1", () -> none.transitionCount() + " " + made("net 8 1;").transitionCount());
        begin(26, "no token, and more tokens than a byte can hold");
        due(0, none::totalTokens);
        for (int p = 0; p < 8; p++) {
            none.setTokens(p, 30);
        }
        due(240, none::totalTokens);
        begin(51, "the largest sum");
        due(2160, () -> none.weightedTokens(99999999));
    }

    private static void invariants() {
        begin(49, "the vector 0, and sums that are not 0 for the first or for the last transition alone");
        PetriNet x = made("net 8 10;in 0 0 1;out 9 7 1;");
        due("true true false false", () -> x.isPlaceInvariant(0) + " " + x.isPlaceInvariant(9999990) + " "
            + x.isPlaceInvariant(1) + " " + x.isPlaceInvariant(10000000));
        begin(50, "the vector 0, and sums that are not 0 for the first or for the last place alone");
        due("true true false false", () -> x.isTransitionInvariant(0) + " " + x.isTransitionInvariant(999999990) + " "
            + x.isTransitionInvariant(1) + " " + x.isTransitionInvariant(1000000000));
        begin(49, "weights up to 9");
        PetriNet y = made("net 2 2;in 0 0 9;out 0 1 1;in 1 1 1;out 1 0 9;");
        due("true false false", () -> y.isPlaceInvariant(91) + " " + y.isPlaceInvariant(92) + " " + y.isPlaceInvariant(81));
        begin(50, "numbers up to 9");
        PetriNet z = made("net 1 2;in 0 0 9;out 1 0 1;");
        due("true false false", () -> z.isTransitionInvariant(91) + " " + z.isTransitionInvariant(92) + " "
            + z.isTransitionInvariant(81));
        begin(52, "at least one is 1: none, one and all");
        due("0 1 255", () -> y.simpleInvariants() + " " + made("net 2 1;out 0 0 1;").simpleInvariants() + " "
            + made("net 8 10;").simpleInvariants());
        begin(53, "NONE if there is none, the smallest and the largest");
        PetriNet pair = made("net 8 1;in 0 0 1;out 0 1 2;out 0 2 2;out 0 3 2;out 0 4 2;out 0 5 2;out 0 6 2;out 0 7 1;");
        PetriNet whole = made("net 8 1;in 0 0 7;out 0 1 1;out 0 2 1;out 0 3 1;out 0 4 1;out 0 5 1;out 0 6 1;out 0 7 1;");
        PetriNet last = made("net 8 1;out 0 0 1;out 0 1 1;out 0 2 1;out 0 3 1;out 0 4 1;out 0 5 1;out 0 6 1;");
        due("-1 1", () -> y.smallestInvariant() + " " + made("net 8 10;").smallestInvariant());
        due("10000001 11111111 10000000", () -> pair.smallestInvariant() + " " + whole.smallestInvariant() + " "
            + last.smallestInvariant());
        begin(54, "no place, the first place alone, the last place alone, and all places");
        due(1, () -> made("net 2 1;out 0 1 1;").coveredPlaces());
        due("0 128 255", () -> y.coveredPlaces() + " " + last.coveredPlaces() + " " + made("net 8 10;").coveredPlaces());
        due("129 255", () -> pair.coveredPlaces() + " " + whole.coveredPlaces());
    }

    private static void ratios() {
        PetriNet empty = made("net 8 10;");
        PetriNet one = made("net 8 1;tokens 7 1;in 0 0 1;");
        PetriNet full = made("net 1 1;capacity 0 1;tokens 0 1;");
        begin(57, "no token, one token, and all places full");
        due(0.0, empty::load);
        due(1.0 / 240.0, one::load);
        due(1.0, full::load);
        begin(57, "both converted to double");
        due(1.0 / 3.0, () -> made("net 1 1;capacity 0 3;tokens 0 1;").load());
        begin(58, "none, one of ten, and all transitions");
        due(1.0f, empty::enabledShare);
        due(0.0f, one::enabledShare);
        due(1.0f, () -> made("net 1 1;").enabledShare());
        due(0.0f, () -> made("net 1 1;in 0 0 1;").enabledShare());
        empty.setInput(0, 1, 1);
        due(9.0f / 10.0f, empty::enabledShare);
        PetriNet tenth = made("net 1 10;in 0 0 1;in 0 1 1;in 0 2 1;in 0 3 1;in 0 4 1;in 0 5 1;in 0 6 1;in 0 7 1;in 0 8 1;");
        due(1.0f / 10.0f, tenth::enabledShare);
        begin(58, "both converted to float");
        due(1.0f / 3.0f, () -> made("net 1 3;in 0 0 1;in 0 1 1;").enabledShare());
        begin(59, "it is always 0: empty, full, and with all places invariant");
        due("0 0 0", () -> empty.violations() + " " + one.violations() + " " + full.violations());
    }

    private static void reports() {
        PetriNet x = new PetriNet();
        begin(61, "NONE if nothing was written");
        due("-1 -1 -1 -1", () -> x.reportByte(0) + " " + x.reportByte(-1) + " " + x.reportByte(Integer.MAX_VALUE) + " "
            + x.reportByte(Integer.MIN_VALUE));
        begin(60, "the longest report");
        script(x, "net 8 10;tokens 0 30;tokens 1 29;tokens 2 20;tokens 3 19;tokens 4 11;tokens 5 10;tokens 6 30;tokens 7 30;");
        due(43, x::writeMarking);
        due("30,29,20,19,11,10,30,30 0,1,2,3,4,5,6,7,8,9", () -> bytesOfReport(x, 43));
        begin(61, "NONE if the report has no such byte");
        due("51 57 -1 -1 -1", () -> x.reportByte(0) + " " + x.reportByte(42) + " " + x.reportByte(43) + " " + x.reportByte(63)
            + " " + x.reportByte(64));
        due("-1 -1 -1", () -> x.reportByte(-1) + " " + x.reportByte(Integer.MIN_VALUE) + " " + x.reportByte(Integer.MAX_VALUE));
        begin(60, "the shortest report, in place of the previous one");
        script(x, "net 1 1;tokens 0 9;inhibit 0 0 9;");
        due("51 57", () -> x.reportByte(0) + " " + x.reportByte(42));
        due("3 9 -", () -> x.writeMarking() + " " + bytesOfReport(x, 3));
        due("-1 -1 -1", () -> x.reportByte(3) + " " + x.reportByte(42) + " " + x.reportByte(-1));
        begin(60, "one digit and two digits, one transition and several");
        due("10 0", () -> report(made("net 1 1;tokens 0 10;")));
        due("9,10,0 2", () -> report(made("net 3 3;tokens 0 9;tokens 1 10;in 2 0 1;in 2 1 1;")));
        due("0 9", () -> report(made("net 1 10;in 0 0 1;in 0 1 1;in 0 2 1;in 0 3 1;in 0 4 1;in 0 5 1;in 0 6 1;in 0 7 1;in 0 8 1;")));
        begin(60, "writing a report is no change");
        due(2, x::undoCount);
    }

    public static void main(String[] args) {
        newObject();
        tokensAtTheWeight();
        tokensAtTheLimit();
        tokensAtTheCapacity();
        orderOfReasons();
        changesThatChangeNothing();
        tenChanges();
        everyChangeIsCountedAndUndone();
        snapshots();
        whatUndoLeavesAlone();
        firingsAreCounted();
        runs();
        theRuleOfRuns();
        firesInRow();
        conflicts();
        fullExploration();
        theMarkingThatIsNotExplored();
        smallestExploration();
        homeOnlyFromTheLastMarking();
        explorationAfterChanges();
        reversedNets();
        sets();
        invariants();
        ratios();
        reports();
        finish();
    }
}
