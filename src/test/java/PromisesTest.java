/** Promise by promise: ordinary calls, the edges that the document names, and wrong arguments. */
public final class PromisesTest extends Checks {
    private static final String FIRST_NET = "net 4 4; capacity 3 2; tokens 0 3; tokens 2 1; in 0 0 1; out 0 1 1; "
        + "in 1 1 1; in 2 1 1; out 1 3 1; in 3 2 1; out 2 0 1; out 2 2 1; in 1 3 2; out 3 0 2; inhibit 3 3 1; "
        + "fire 0; fire 0;";

    private static void promise1() {
        begin(1);
        PetriNet x = new PetriNet();
        due(4, x::placeCount);
        due(4, x::transitionCount);
        due("1,2,1,0 0,1,3", () -> report(x));
        due(2, () -> x.capacity(3));
        due(30, () -> x.capacity(0));
        due(2, () -> x.firings(0));
        due(0, () -> x.firings(1));
        due(0, x::inputLength);
        due(0, x::undoCount);
        due(-1, x::undo);
        due(0, x::scriptErrorKind);
        due(-1, () -> x.reportByte(13));
        PetriNet byScript = made(FIRST_NET);
        due(stateOf(byScript), () -> stateOf(x));
        for (int t = 0; t < 4; t++) {
            for (int p = 0; p < 4; p++) {
                final int tt = t;
                final int pp = p;
                due(byScript.setInput(p, t, 0), () -> x.setInput(pp, tt, 0));
                due(byScript.setOutput(t, p, 0), () -> x.setOutput(tt, pp, 0));
                due(byScript.setInhibitor(p, t, 0), () -> x.setInhibitor(pp, tt, 0));
            }
        }
    }

    private static void promises2To4() {
        begin(2);
        PetriNet x = new PetriNet();
        for (int i = 1; i <= 25; i++) {
            final int length = 20 * i;
            due(length, () -> x.append(0, 0, 0, 0, 0));
        }
        due(-2, () -> x.append(0, 0, 0, 0, 0));
        due(500, x::inputLength);
        due(481, () -> x.truncateInput(481));
        due(-2, () -> x.append(0, 0, 0, 0, 0));
        due(481, x::inputLength);
        due(480, () -> x.truncateInput(480));
        due(500, () -> x.append(0, 0, 0, 0, 0));
        // The most significant byte comes first, and nothing but the bytes of the parameters is taken.
        PetriNet y = new PetriNet();
        due(20, () -> y.append(0x6e657420, 0x3120313b, 0x746f6b65, 0x6e732030, 0x2031373b));
        due(17, y::runScript);
        due(1, y::placeCount);
        due(20, () -> y.append(0x6e657420, 0x3120313b, 0x20202020, 0x20202020, 0x202020ff));
        due(-1, y::runScript);
        due(19, y::scriptErrorOffset);
        begin(3);
        due(ARGUMENT, () -> x.truncateInput(-1));
        due(ARGUMENT, () -> x.truncateInput(501));
        due(ARGUMENT, () -> x.truncateInput(Integer.MIN_VALUE));
        due(ARGUMENT, () -> x.truncateInput(Integer.MAX_VALUE));
        due(500, x::inputLength);
        due(500, () -> x.truncateInput(500));
        due(7, () -> x.truncateInput(7));
        due(ARGUMENT, () -> x.truncateInput(8));
        due(0, () -> x.truncateInput(0));
        due(0, () -> x.truncateInput(0));
        type(x, "net 1 1;tokens 0 5;");
        x.truncateInput(8);
        due(0, x::runScript);
        begin(4);
        due(0, x::inputLength);
        x.append(1, 2, 3, 4, 5);
        due(20, x::inputLength);
        x.truncateInput(3);
        due(3, x::inputLength);
        due(23, () -> x.append(1, 2, 3, 4, 5));
        x.fire(0);
        x.undo();
        x.saveSnapshot();
        x.restoreSnapshot();
        due(23, x::inputLength);
        x.runScript();
        due(0, x::inputLength);
    }

    private static void promise5() {
        begin(5);
        PetriNet x = new PetriNet();
        due(13, () -> script(x, "net 3 2;tokens 0 4;tokens 1 4;tokens 2 5;in 0 0 1;out 0 1 1;in 2 1 2;out 1 2 1;"));
        due(3, x::placeCount);
        due(2, x::transitionCount);
        due("4,4,5 0,1", () -> report(x));
        due(1, x::undoCount);
    }

    private static void scriptsReplaceEverything() {
        begin(5);
        PetriNet x = new PetriNet();
        x.setCapacity(0, 7);
        x.setInhibitor(0, 0, 5);
        due(0, () -> script(x, "net 4 4;"));
        due("0,0,0,0 0,1,2,3", () -> report(x));
        for (int i = 0; i < 4; i++) {
            final int p = i;
            due(30, () -> x.capacity(p));
            due(0, () -> x.firings(p));
            due(0, () -> x.inputPlaces(p));
            due(0, () -> x.outputPlaces(p));
        }
        due(0, () -> x.setInhibitor(0, 0, 0));
        due(8, () -> script(x, "net 8 10;tokens 7 5;tokens 0 3;"));
        due(8, x::placeCount);
        due(10, x::transitionCount);
        due(5, () -> x.tokens(7));
        due(1, () -> script(x, "net 1 1;tokens 0 1;fire 0;fire 0;run 3;"));
        due(5, () -> x.firings(0));
        due(0, () -> script(x, "net 1 1;"));
        due(0, () -> x.firings(0));
        due(3, () -> script(x, "net 2 1;capacity 0 2;tokens 0 2;capacity 1 1;tokens 1 1;in 0 0 9;out 0 1 9;inhibit 1 0 9;"));
        due(1, () -> x.capacity(1));
        due(9, () -> x.setInput(0, 0, 0));
        due(9, () -> x.setOutput(0, 1, 0));
        due(9, () -> x.setInhibitor(1, 0, 0));
        due(0, () -> script(x, "net 2 1;"));
        due("0 0 0", () -> x.setInput(0, 0, 0) + " " + x.setOutput(0, 1, 0) + " " + x.setInhibitor(1, 0, 0));
        due(1, () -> script(x, "net 1 1;tokens 0 9;tokens 0 1;in 0 0 9;in 0 0 0;out 0 0 9;out 0 0 0;inhibit 0 0 1;inhibit 0 0 0;"));
        due("0 0 0", () -> x.setInput(0, 0, 0) + " " + x.setOutput(0, 0, 0) + " " + x.setInhibitor(0, 0, 0));
        // A run stops at its number, or when nothing is enabled, and both are no error.
        due(5, () -> script(x, "net 2 2;tokens 0 5;in 0 0 1;out 0 1 1;in 0 1 1;out 1 1 1;run 3;"));
        due("2,3 0,1", () -> report(x));
        due(2, () -> x.firings(0));
        due(1, () -> x.firings(1));
        due(5, () -> script(x, "net 2 1;tokens 0 5;in 0 0 1;out 0 1 1;run 200;run 1;"));
        due(5, () -> x.firings(0));
    }

    private static void scriptsWithAnError() {
        begin(5);
        PetriNet x = new PetriNet();
        String before = stateOf(x);
        type(x, "net 1 1;tokens 0 3;oops;");
        due(-1, x::runScript);
        due(0, x::inputLength);
        due(before, () -> stateOf(x));
        due(0, x::undoCount);
        due(-1, x::runScript);
        due("1 at 0", () -> errorOf(x));
        x.fire(0);
        x.saveSnapshot();
        due(-1, () -> script(x, "net"));
        due(1, x::undoCount);
        due(0, x::undo);
        due(before, () -> stateOf(x));
    }

    private static void promises6And7() {
        begin(6);
        PetriNet x = new PetriNet();
        due(1, () -> x.setTokens(0, 30));
        due(30, () -> x.setTokens(0, 0));
        due(0, () -> x.tokens(0));
        due(0, () -> x.setTokens(3, 2));
        due(ARGUMENT, () -> x.setTokens(3, 3));
        due(ARGUMENT, () -> x.setTokens(3, -1));
        due(ARGUMENT, () -> x.setTokens(0, 31));
        due(OUT_OF_BOUNDS, () -> x.setTokens(4, 0));
        due(OUT_OF_BOUNDS, () -> x.setTokens(-1, 0));
        due(OUT_OF_BOUNDS, () -> x.setTokens(4, -1));
        due(2, () -> x.tokens(3));
        due(3, x::undoCount);
        due(2, () -> x.setTokens(3, 2));
        due(4, x::undoCount);
        begin(7);
        PetriNet y = new PetriNet();
        due(2, () -> y.setCapacity(3, 1));
        due(1, () -> y.capacity(3));
        due(30, () -> y.setCapacity(1, 2));
        due(STATE, () -> y.setCapacity(1, 1));
        due(ARGUMENT, () -> y.setCapacity(1, 0));
        due(ARGUMENT, () -> y.setCapacity(1, 31));
        due(ARGUMENT, () -> y.setCapacity(1, Integer.MIN_VALUE));
        due(OUT_OF_BOUNDS, () -> y.setCapacity(-1, 0));
        due(OUT_OF_BOUNDS, () -> y.setCapacity(4, 5));
        due(2, () -> y.capacity(1));
        due(2, () -> y.setCapacity(1, 30));
        due(3, y::undoCount);
        due(ARGUMENT, () -> y.setTokens(3, 2));
    }

    private static void promises8To10() {
        begin(8);
        PetriNet x = new PetriNet();
        due(1, () -> x.setInput(0, 0, 9));
        due(9, () -> x.setInput(0, 0, 0));
        due(0, () -> x.setInput(0, 3, 4));
        due(1 << 0 | 1 << 1, () -> x.inputPlaces(3));
        due(ARGUMENT, () -> x.setInput(0, 0, 10));
        due(ARGUMENT, () -> x.setInput(0, 0, -1));
        due(OUT_OF_BOUNDS, () -> x.setInput(4, 0, 10));
        due(OUT_OF_BOUNDS, () -> x.setInput(0, 4, 10));
        due(OUT_OF_BOUNDS, () -> x.setInput(-1, 0, 1));
        due(OUT_OF_BOUNDS, () -> x.setInput(0, -1, 1));
        due(3, x::undoCount);
        begin(9);
        PetriNet y = new PetriNet();
        due(2, () -> y.setOutput(3, 0, 9));
        due(9, () -> y.setOutput(3, 0, 0));
        due(0, () -> y.setOutput(0, 3, 4));
        due(1 << 1 | 1 << 3, () -> y.outputPlaces(0));
        due(4, () -> y.effect(0, 3));
        due(ARGUMENT, () -> y.setOutput(0, 0, 10));
        due(ARGUMENT, () -> y.setOutput(0, 0, -1));
        due(OUT_OF_BOUNDS, () -> y.setOutput(4, 0, 10));
        due(OUT_OF_BOUNDS, () -> y.setOutput(0, 4, 10));
        due(OUT_OF_BOUNDS, () -> y.setOutput(-1, 0, 1));
        due(OUT_OF_BOUNDS, () -> y.setOutput(0, -1, 1));
        due(3, y::undoCount);
        begin(10);
        PetriNet z = new PetriNet();
        due(1, () -> z.setInhibitor(3, 3, 9));
        due(9, () -> z.setInhibitor(3, 3, 0));
        due(0, () -> z.setInhibitor(1, 0, 2));
        due(2, () -> z.whyNotEnabled(0));
        due(2, () -> z.setInhibitor(1, 0, 3));
        due(0, () -> z.whyNotEnabled(0));
        due(ARGUMENT, () -> z.setInhibitor(0, 0, 10));
        due(ARGUMENT, () -> z.setInhibitor(0, 0, -1));
        due(OUT_OF_BOUNDS, () -> z.setInhibitor(4, 0, 10));
        due(OUT_OF_BOUNDS, () -> z.setInhibitor(0, 4, 10));
        due(OUT_OF_BOUNDS, () -> z.setInhibitor(-1, 0, 1));
        due(OUT_OF_BOUNDS, () -> z.setInhibitor(0, -1, 1));
        due(4, z::undoCount);
    }

    private static void indicesOfArcs() {
        begin(8);
        PetriNet x = made("net 2 3;");
        due(0, () -> x.setInput(1, 2, 3));
        due(OUT_OF_BOUNDS, () -> x.setInput(2, 1, 3));
        due(OUT_OF_BOUNDS, () -> x.setInput(0, 3, 3));
        due(4, () -> x.consumers(1));
        begin(9);
        due(0, () -> x.setOutput(2, 1, 5));
        due(OUT_OF_BOUNDS, () -> x.setOutput(1, 2, 3));
        due(2, () -> x.effect(2, 1));
        begin(10);
        due(0, () -> x.setInhibitor(1, 2, 5));
        due(OUT_OF_BOUNDS, () -> x.setInhibitor(2, 1, 5));
    }

    private static void promises11And12() {
        begin(11);
        PetriNet x = new PetriNet();
        due(3, () -> x.fire(0));
        due("0,3,1,0 1,3", () -> report(x));
        due(STATE, () -> x.fire(0));
        due(STATE, () -> x.fire(2));
        due(OUT_OF_BOUNDS, () -> x.fire(4));
        due(OUT_OF_BOUNDS, () -> x.fire(-1));
        due(1, () -> x.fire(3));
        due("2,1,1,0 0,1", () -> report(x));
        due(2, x::undoCount);
        begin(12);
        PetriNet y = new PetriNet();
        due(1, () -> y.run(1));
        due("1,1,0,1 0,2", () -> report(y));
        due(2, () -> y.run(2));
        due("2,0,0,1 0,2", () -> report(y));
        due(2, () -> y.firings(0));
        due(2, () -> y.firings(1));
        due(1, () -> y.firings(2));
        due(200, () -> y.run(200));
        due(3, y::undoCount);
        due(ARGUMENT, () -> y.run(0));
        due(ARGUMENT, () -> y.run(201));
        due(ARGUMENT, () -> y.run(-5));
        due(3, y::undoCount);
        PetriNet dead = made("net 2 1;tokens 0 5;in 0 0 2;out 0 1 1;");
        due(2, () -> dead.run(200));
        due(0, () -> dead.run(1));
        due(3, dead::undoCount);
        due("1,2 -", () -> report(dead));
    }

    private static void promises13And14() {
        begin(13);
        PetriNet x = new PetriNet();
        for (int number = 0; number < 7; number++) {
            final int n = number;
            final String want = x.markingTokens(n, 0) + "," + x.markingTokens(n, 1) + "," + x.markingTokens(n, 2) + ","
                + x.markingTokens(n, 3);
            due(x.markingDistance(n), () -> x.moveToMarking(n));
            due(want, () -> report(x).substring(0, 7));
            due(2, () -> x.firings(0));
            due(0, () -> x.firings(1));
            x.undo();
        }
        due(NO_ELEMENT, () -> x.moveToMarking(7));
        due(NO_ELEMENT, () -> x.moveToMarking(-1));
        due(NO_ELEMENT, () -> x.moveToMarking(Integer.MAX_VALUE));
        due(0, x::undoCount);
        due(0, () -> x.moveToMarking(0));
        due(1, x::undoCount);
        begin(14);
        PetriNet y = new PetriNet();
        // Reversed, with the marking 1,2,1,0: 0 moves from 1 to 0, 1 and 3 lack tokens, 2 fills 3.
        due(2, y::reverseNet);
        due("1,2,1,0 0,2", () -> report(y));
        due(1 << 3, () -> y.inputPlaces(1));
        due(1 << 1 | 1 << 2, () -> y.outputPlaces(1));
        due(1, () -> y.effect(0, 0));
        due(-2, () -> y.effect(3, 0));
        due(1, () -> y.setInhibitor(3, 3, 1));
        due(3, y::reverseNet);
        due(3, y::undoCount);
        due(stateOf(new PetriNet()), () -> stateOf(y));
    }

    private static void promises15And16() {
        begin(15);
        PetriNet x = new PetriNet();
        due(-1, x::undo);
        script(x, "net 2 1;");
        String[] states = new String[13];
        for (int i = 0; i < 13; i++) {
            states[i] = stateOf(x);
            x.setTokens(0, i + 5);
        }
        begin(16);
        due(10, x::undoCount);
        begin(15);
        for (int i = 12; i >= 3; i--) {
            final int left = i - 3;
            due(left, x::undo);
            due(states[i], () -> stateOf(x));
            due(left, x::undoCount);
        }
        due(-1, x::undo);
        due(states[3], () -> stateOf(x));
        due(0, x::undoCount);
    }

    private static void undoOfEveryChange() {
        begin(15);
        PetriNet x = new PetriNet();
        Call[] changes = {
            () -> script(x, "net 2 1;tokens 0 7;in 0 0 1;out 0 1 1;run 3;"), () -> x.setTokens(0, 9),
            () -> x.setCapacity(0, 10), () -> x.setInput(0, 0, 2), () -> x.setOutput(0, 1, 3), () -> x.setInhibitor(1, 0, 7),
            () -> x.fire(0), () -> x.run(2), () -> x.moveToMarking(0), () -> x.reverseNet(),
        };
        String[] states = new String[changes.length];
        for (int i = 0; i < changes.length; i++) {
            states[i] = stateOf(x);
            changes[i].answer();
            final int count = i + 1;
            due(count, x::undoCount);
        }
        type(x, "net 1 1;oops");
        x.runScript();
        type(x, "net 1");
        int length = x.writeMarking();
        for (int i = changes.length - 1; i >= 0; i--) {
            final int left = i;
            due(left, x::undo);
            due(states[i], () -> stateOf(x));
        }
        // The input buffer, the script error and the report stay.
        due(5, x::inputLength);
        due("1 at 8", () -> errorOf(x));
        due(true, () -> x.reportByte(length - 1) >= 0 && x.reportByte(length) == -1);
        due(NO_ELEMENT, x::restoreSnapshot);
        begin(16);
        due(0, x::undoCount);
        x.fire(0);
        due(1, x::undoCount);
        x.undo();
        due(0, x::undoCount);
    }

    private static void promises17And18() {
        begin(18);
        PetriNet x = new PetriNet();
        due(NO_ELEMENT, x::restoreSnapshot);
        begin(17);
        x.fire(0);
        String saved = stateOf(x);
        due(4, x::saveSnapshot);
        due(1, x::undoCount);
        x.undo();
        begin(18);
        due(4, x::restoreSnapshot);
        due(saved, () -> stateOf(x));
        due(0, x::undoCount);
        due(-1, x::undo);
        script(x, "net 2 2;tokens 0 9;");
        due(4, x::restoreSnapshot);
        due(saved, () -> stateOf(x));
        due(0, x::undoCount);
        begin(17);
        x.setTokens(2, 11);
        String later = stateOf(x);
        due(14, x::saveSnapshot);
        x.setTokens(2, 0);
        x.undo();
        due(1, x::undoCount);
        x.run(5);
        begin(18);
        due(14, x::restoreSnapshot);
        due(later, () -> stateOf(x));
        script(x, "net 1 1;");
        due(1, x::markingCount);
        due(14, x::restoreSnapshot);
        due(later, () -> stateOf(x));
        x.fire(1);
        type(x, "net");
        due(14, x::restoreSnapshot);
        due(3, x::inputLength);
    }

    private static void promises19And20() {
        begin(19);
        PetriNet x = new PetriNet();
        due(0, x::scriptErrorKind);
        due(-1, x::scriptErrorOffset);
        script(x, "net 1 1");
        due(1, x::scriptErrorKind);
        begin(20);
        due(7, x::scriptErrorOffset);
        script(x, "net 1 1;");
        due(0, x::scriptErrorKind);
        due(-1, x::scriptErrorOffset);
        kindsOfErrors();
        rangesInScripts();
        orderOfErrors();
        tokensOfScripts();
    }

    private static void kindsOfErrors() {
        begin(19);
        error("1 at 0", "");
        error("1 at 3", "  \n");
        error("1 at 0", "nets 1 1;");
        error("1 at 0", "ne 1 1;");
        error("1 at 0", "tokens 0 1;");
        error("1 at 0", ";");
        error("1 at 3", "net");
        error("1 at 4", "net ;");
        error("1 at 4", "net x 1;");
        error("1 at 5", "net 1;");
        error("1 at 8", "net 1 1 1;");
        error("1 at 7", "net 1 1");
        error("1 at 8", "net 1 1 tokens 0 1;");
        error("1 at 9", "net 1 1; net 1 1;");
        error("1 at 8", "net 1 1;;");
        error("1 at 8", "net 1 1;5;");
        error("1 at 17", "net 1 1;tokens 0 ");
        error("1 at 16", "net 1 1;tokens 0");
        error("1 at 16", "net 1 1;tokens 0;");
        error("1 at 18", "net 1 1;tokens 0 1");
        error("1 at 19", "net 1 1;tokens 0 1 2;");
        error("1 at 8", "net 1 1;Tokens 0 1;");
        error("1 at 16", "net 1 1;tokens 0\t1;");
        error("1 at 16", "net 1 1;tokens 0\r1;");
        error("1 at 15", "net 1 1;tokens -1 1;");
        error("1 at 14", "net 1 1;tokens\u00ff 0 1;");
        error("1 at 4", "net 0001 1;");
        error("1 at 4", "net 1234567890123 1;");
        error("1 at 17", "net 1 1;tokens 0 0001;");
        error("1 at 8", "net 1 1;\u0000");
        error("1 at 10", "net 1 1;in{0 0 1;");
        error("3 at 25", "net 1 1;in 0 0 1;fire\n\n\n 0;");
        error("3 at 40", "net 1 1;tokens 0 1;in 0 0 1;fire 0;fire 0;");
        error("3 at 22", "net 1 1;in 0 0 1;fire 0 ;");
    }

    private static void rangesInScripts() {
        begin(19);
        error("2 at 4", "net 0 1;");
        error("2 at 4", "net 9 1;");
        error("2 at 6", "net 8 0;");
        error("2 at 6", "net 8 11;");
        error("0 at -1", "net 8 10;");
        error("0 at -1", "net 1 1;");
        error("2 at 16", "net 2 10;tokens 2 1;");
        error("2 at 18", "net 2 10;tokens 1 31;");
        error("0 at -1", "net 2 10;tokens 1 30;");
        error("2 at 34", "net 2 10;capacity 1 5;   tokens 1 6;");
        error("0 at -1", "net 2 10;capacity 1 5;tokens 1 5;");
        error("2 at 18", "net 2 10;capacity 2 1;");
        error("2 at 20", "net 2 10;capacity 1 0;");
        error("2 at 20", "net 2 10;capacity 1 31;");
        error("0 at -1", "net 2 10;capacity 1 1;capacity 0 30;");
        error("2 at 31", "net 2 10;tokens 1 4;capacity 1 3;");
        error("0 at -1", "net 2 10;tokens 1 4;capacity 1 4;");
        error("2 at 12", "net 2 10;in 2 9 9;");
        error("2 at 14", "net 2 10;in 1 10 9;");
        error("2 at 16", "net 2 10;in 1 9 10;");
        error("0 at -1", "net 2 10;in 1 9 9;out 9 1 9;inhibit 1 9 9;");
        error("2 at 13", "net 2 10;out 10 1 9;");
        error("2 at 12", "net 2 3;out 3 1 1;");
        error("2 at 14", "net 2 3;out 2 2 1;");
        error("2 at 11", "net 2 3;in 2 1 1;");
        error("2 at 13", "net 2 3;in 1 3 1;");
        error("2 at 16", "net 2 3;inhibit 2 1 1;");
        error("2 at 13", "net 2 3;fire 3;");
        error("0 at -1", "net 2 3;tokens 0 0;in 0 0 0;out 0 0 0;inhibit 0 0 0;");
        error("2 at 15", "net 2 10;out 9 2 9;");
        error("2 at 17", "net 2 10;out 9 1 10;");
        error("2 at 17", "net 2 10;inhibit 2 9 9;");
        error("2 at 19", "net 2 10;inhibit 1 10 9;");
        error("2 at 21", "net 2 10;inhibit 1 9 10;");
        error("2 at 14", "net 2 10;fire 10;");
        error("0 at -1", "net 2 10;fire 9;");
        error("2 at 13", "net 2 10;run 0;");
        error("2 at 13", "net 2 10;run 201;");
        error("0 at -1", "net 2 10;run 1;run 200;");
    }

    private static void orderOfErrors() {
        begin(20);
        error("2 at 4", "net 9 99 oops");
        error("2 at 15", "net 1 1;tokens 1 99");
        error("2 at 17", "net 1 1;tokens 0 99 oops");
        error("3 at 22", "net 1 1;in 0 0 1;fire 0 oops");
        error("1 at 15", "net 1 1;tokens 1000 99;");
        error("2 at 18", "net 1 1;run 1;run 999;*");
        error("1 at 0", "* net 9 9;");
    }

    private static void tokensOfScripts() {
        begin(20);
        // Tokens need nothing between them; spaces and line feeds may stand anywhere else.
        error("0 at -1", "net1 1;tokens0 1;");
        error("0 at -1", " \n net\n1 \n 1\n;\n\n tokens 0\n1 ; ");
        error("0 at -1", "net 001 010;tokens 000 030;");
        error("1 at 6", "net 1 t1;");
        error("1 at 0", "netx1 1;");
        error("1 at 0", "netz 1 1;");
        error("1 at 0", "neta 1 1;");
        error("1 at 0", "zet 1 1;");
        error("1 at 3", "net`1 1;");
        error("1 at 3", "net{1 1;");
        error("1 at 5", "net 1/1;");
        error("1 at 5", "net 1:1;");
        error("1 at 5", "net 1x 1;");
        // What stood in the buffer behind the end of the text is no part of it.
        PetriNet cut = new PetriNet();
        type(cut, "net 1 1;tokensx");
        cut.truncateInput(14);
        due("-1: 1 at 14", () -> cut.runScript() + ": " + errorOf(cut));
        type(cut, "net 1 1;run 55;");
        cut.truncateInput(13);
        due("-1: 1 at 13", () -> cut.runScript() + ": " + errorOf(cut));
        StringBuilder full = new StringBuilder("net 1 1;");
        while (full.length() < 500) {
            full.append("run 1;");
        }
        PetriNet x = new PetriNet();
        due(0, () -> script(x, full.substring(0, 500)));
        due(82, () -> x.firings(0));
        error("1 at 500", full.substring(0, 8) + " " + full.substring(8, 499));
    }

    private static void promises21To29() {
        PetriNet x = new PetriNet();
        PetriNet y = made("net 8 10;tokens 7 30;capacity 6 4;in 7 9 3;out 9 7 1;in 0 9 2;out 9 6 9;in 7 0 1;");
        begin(21);
        due(4, x::placeCount);
        due(8, y::placeCount);
        begin(22);
        due(4, x::transitionCount);
        due(10, y::transitionCount);
        begin(23);
        due(1, () -> x.tokens(0));
        due(2, () -> x.tokens(1));
        due(30, () -> y.tokens(7));
        due(OUT_OF_BOUNDS, () -> x.tokens(4));
        due(OUT_OF_BOUNDS, () -> x.tokens(-1));
        due(OUT_OF_BOUNDS, () -> y.tokens(8));
        begin(24);
        due(2, () -> x.capacity(3));
        due(4, () -> y.capacity(6));
        due(30, () -> y.capacity(7));
        due(OUT_OF_BOUNDS, () -> x.capacity(4));
        due(OUT_OF_BOUNDS, () -> x.capacity(-1));
        begin(25);
        due(2, () -> x.effect(3, 0));
        due(-2, () -> x.effect(3, 1));
        due(0, () -> x.effect(0, 3));
        due(-2, () -> y.effect(9, 7));
        due(9, () -> y.effect(9, 6));
        due(OUT_OF_BOUNDS, () -> x.effect(4, 0));
        due(OUT_OF_BOUNDS, () -> x.effect(0, 4));
        due(OUT_OF_BOUNDS, () -> x.effect(-1, 0));
        due(OUT_OF_BOUNDS, () -> x.effect(0, -1));
        due(OUT_OF_BOUNDS, () -> y.effect(7, 9));
        begin(26);
        due(4, x::totalTokens);
        due(30, y::totalTokens);
        begin(27);
        due(6, () -> x.inputPlaces(1));
        due(129, () -> y.inputPlaces(9));
        due(0, () -> y.inputPlaces(1));
        due(OUT_OF_BOUNDS, () -> x.inputPlaces(4));
        due(OUT_OF_BOUNDS, () -> x.inputPlaces(-1));
        begin(28);
        due(5, () -> x.outputPlaces(2));
        due(192, () -> y.outputPlaces(9));
        due(0, () -> y.outputPlaces(0));
        due(OUT_OF_BOUNDS, () -> x.outputPlaces(4));
        due(OUT_OF_BOUNDS, () -> x.outputPlaces(-1));
        begin(29);
        due(10, () -> x.consumers(1));
        due(513, () -> y.consumers(7));
        due(0, () -> y.consumers(6));
        due(OUT_OF_BOUNDS, () -> x.consumers(4));
        due(OUT_OF_BOUNDS, () -> x.consumers(-1));
        due(OUT_OF_BOUNDS, () -> y.consumers(8));
    }

    private static void promises30And31() {
        begin(30);
        // Transition 0: no space at 0, inhibited by 1 and 2, too few at 3 and 4.
        PetriNet x = made("net 5 2;capacity 0 1;tokens 0 1;out 0 0 1;tokens 1 2;inhibit 1 0 2;tokens 2 3;inhibit 2 0 1;"
            + "in 3 0 1;in 4 0 1;");
        due(1, () -> x.whyNotEnabled(0));
        due(3, () -> x.blockingPlace(0));
        x.setTokens(3, 1);
        due(1, () -> x.whyNotEnabled(0));
        due(4, () -> x.blockingPlace(0));
        x.setTokens(4, 1);
        due(2, () -> x.whyNotEnabled(0));
        due(1, () -> x.blockingPlace(0));
        x.setTokens(1, 1);
        due(2, () -> x.whyNotEnabled(0));
        due(2, () -> x.blockingPlace(0));
        x.setInhibitor(2, 0, 0);
        due(3, () -> x.whyNotEnabled(0));
        due(0, () -> x.blockingPlace(0));
        // What is taken away makes room.
        x.setInput(0, 0, 1);
        due(0, () -> x.whyNotEnabled(0));
        due(-1, () -> x.blockingPlace(0));
        x.setOutput(0, 0, 2);
        due(3, () -> x.whyNotEnabled(0));
        due(0, () -> x.whyNotEnabled(1));
        due(OUT_OF_BOUNDS, () -> x.whyNotEnabled(2));
        due(OUT_OF_BOUNDS, () -> x.whyNotEnabled(-1));
        begin(31);
        due(-1, () -> x.blockingPlace(1));
        due(OUT_OF_BOUNDS, () -> x.blockingPlace(2));
        due(OUT_OF_BOUNDS, () -> x.blockingPlace(-1));
        // One place with two reasons: the earlier reason counts.
        PetriNet y = made("net 2 1;tokens 1 2;inhibit 1 0 1;in 1 0 3;out 0 0 9;capacity 0 8;");
        due(1, () -> y.whyNotEnabled(0));
        due(1, () -> y.blockingPlace(0));
        y.setInput(1, 0, 0);
        due(2, () -> y.whyNotEnabled(0));
        due(1, () -> y.blockingPlace(0));
        y.setTokens(1, 0);
        due(3, () -> y.whyNotEnabled(0));
        due(0, () -> y.blockingPlace(0));
    }

    private static void promises32To35() {
        begin(32);
        PetriNet x = new PetriNet();
        PetriNet dead = made("net 1 10;tokens 0 1;in 0 0 2;in 0 1 2;in 0 2 2;in 0 3 2;in 0 4 2;in 0 5 2;in 0 6 2;in 0 7 2;in 0 8 2;in 0 9 2;");
        due(11, x::enabledTransitions);
        due(0, dead::enabledTransitions);
        begin(33);
        due(false, x::isDead);
        due(true, dead::isDead);
        begin(35);
        due(-1, dead::nextOfRun);
        begin(32);
        dead.setTokens(0, 2);
        due(1023, dead::enabledTransitions);
        begin(33);
        due(false, dead::isDead);
        begin(34);
        due(2, () -> x.firings(0));
        due(0, () -> x.firings(3));
        x.fire(3);
        due(1, () -> x.firings(3));
        x.undo();
        due(0, () -> x.firings(3));
        due(OUT_OF_BOUNDS, () -> x.firings(4));
        due(OUT_OF_BOUNDS, () -> x.firings(-1));
        begin(35);
        due(1, x::nextOfRun);
        x.fire(1);
        due(2, x::nextOfRun);
        x.fire(2);
        due(1, x::nextOfRun);
        PetriNet y = made("net 1 3;fire 0;fire 1;fire 2;");
        due(0, y::nextOfRun);
        y.fire(0);
        due(1, y::nextOfRun);
    }

    private static void promises36And37() {
        begin(36);
        PetriNet x = new PetriNet();
        due(1, () -> x.firesInRow(0));
        due(0, () -> x.firesInRow(2));
        x.setTokens(0, 28);
        // Place 1 has 2 of 30 tokens.
        due(28, () -> x.firesInRow(0));
        x.setCapacity(1, 20);
        due(18, () -> x.firesInRow(0));
        x.setInhibitor(1, 0, 9);
        due(7, () -> x.firesInRow(0));
        x.setInput(1, 0, 1);
        x.setInput(0, 0, 0);
        due(1000, () -> x.firesInRow(0));
        due(2, () -> x.firings(0));
        due("28,2,1,0", () -> report(x).substring(0, 8));
        due(OUT_OF_BOUNDS, () -> x.firesInRow(4));
        due(OUT_OF_BOUNDS, () -> x.firesInRow(-1));
        begin(37);
        PetriNet y = new PetriNet();
        due(true, () -> y.areInConflict(1, 3));
        due(true, () -> y.areInConflict(3, 1));
        due(false, () -> y.areInConflict(0, 1));
        due(false, () -> y.areInConflict(0, 2));
        due(false, () -> y.areInConflict(2, 0));
        due(OUT_OF_BOUNDS, () -> y.areInConflict(0, 4));
        due(OUT_OF_BOUNDS, () -> y.areInConflict(4, 0));
        due(OUT_OF_BOUNDS, () -> y.areInConflict(-1, 0));
        due(OUT_OF_BOUNDS, () -> y.areInConflict(0, -1));
        // By the words of the definition, a transition may be in conflict with itself.
        due(true, () -> y.areInConflict(0, 0));
        due(stateOf(new PetriNet()), () -> stateOf(y));
        // Only one of the two orders disables the other one: 0 inhibits 1, but 1 leaves 0 alone.
        PetriNet z = made("net 2 2;out 0 0 1;inhibit 0 1 1;out 1 1 1;");
        due(true, () -> z.areInConflict(0, 1));
        due(true, () -> z.areInConflict(1, 0));
        due(false, () -> z.areInConflict(0, 0));
        z.fire(0);
        due(false, () -> z.areInConflict(0, 1));
    }

    private static void promises38To42() {
        PetriNet x = new PetriNet();
        begin(38);
        due(7, x::markingCount);
        begin(39);
        due(true, x::isComplete);
        begin(40);
        // Written out by hand: the present marking, and the ones after firing 0, 1 and 3 in it.
        String[] markings = {"1210", "0310", "1101", "3010"};
        due(1, () -> x.markingTokens(0, 0));
        due(0, () -> x.markingTokens(1, 0));
        due(3, () -> x.markingTokens(1, 1));
        for (int i = 0; i < 4; i++) {
            for (int p = 0; p < 4; p++) {
                final int n = i;
                final int pp = p;
                due(markings[n].charAt(pp) - '0', () -> x.markingTokens(n, pp));
            }
        }
        due(OUT_OF_BOUNDS, () -> x.markingTokens(0, 4));
        due(OUT_OF_BOUNDS, () -> x.markingTokens(7, 4));
        due(OUT_OF_BOUNDS, () -> x.markingTokens(0, -1));
        due(NO_ELEMENT, () -> x.markingTokens(7, 0));
        due(NO_ELEMENT, () -> x.markingTokens(-1, 0));
        begin(41);
        due(0, () -> x.markingDistance(0));
        due(1, () -> x.markingDistance(3));
        due(2, () -> x.markingDistance(4));
        due(3, () -> x.markingDistance(6));
        due(NO_ELEMENT, () -> x.markingDistance(7));
        due(NO_ELEMENT, () -> x.markingDistance(-1));
        begin(42);
        due(-1, () -> x.markingTransition(0));
        due(0, () -> x.markingTransition(1));
        due(1, () -> x.markingTransition(2));
        due(3, () -> x.markingTransition(3));
        due(1, () -> x.markingTransition(4));
        due(NO_ELEMENT, () -> x.markingTransition(7));
        due(NO_ELEMENT, () -> x.markingTransition(-1));
        begin(38);
        x.setInput(0, 0, 9);
        x.setInput(1, 1, 9);
        x.setInput(1, 3, 9);
        due(1, x::markingCount);
        x.undo();
        due(2, x::markingCount);
    }

    /** A counter in base 10 and 15: exactly 150 markings, and with one more place more of them. */
    private static void fullExploration() {
        begin(39);
        PetriNet x = made("net 3 3;capacity 0 9;capacity 1 14;capacity 2 1;out 0 0 1;out 1 1 1;out 2 2 1;in 2 2 1;");
        due(150, x::markingCount);
        due(true, x::isComplete);
        due(9, () -> x.bound(0));
        due(14, () -> x.bound(1));
        due(23, () -> x.markingDistance(149));
        x.setTokens(2, 1);
        due(150, x::markingCount);
        due(true, x::isComplete);
        begin(38);
        x.setInput(2, 2, 0);
        x.setTokens(2, 0);
        due(150, x::markingCount);
        begin(39);
        due(false, x::isComplete);
        due(NO_ELEMENT, () -> x.markingTokens(150, 0));
        due(true, () -> x.markingTokens(149, 0) >= 0);
        begin(45);
        due(1, () -> x.bound(2));
        PetriNet y = made("net 2 2;capacity 0 10;capacity 1 13;out 0 0 1;out 1 1 1;");
        begin(39);
        due(150, y::markingCount);
        due(false, y::isComplete);
    }

    /** What only the last of 150 markings shows: it alone, 23 steps away, has no tokens at all. */
    private static void lastMarkings() {
        String grid = "net 4 5;tokens 0 9;tokens 1 4;tokens 2 2;in 0 0 1;in 1 1 1;in 2 2 1;inhibit 0 3 1;inhibit 1 3 1;"
            + "inhibit 2 3 1;in 3 4 1;";
        PetriNet x = made(grid + "out 3 0 9;out 3 1 4;out 3 2 2;");
        begin(46);
        due(150, x::markingCount);
        due(true, x::isComplete);
        due(true, () -> x.canFire(3));
        due(false, () -> x.canFire(4));
        begin(47);
        due(true, x::returnsHome);
        x.setOutput(3, 0, 8);
        due(true, x::isComplete);
        due(false, x::returnsHome);
        begin(43);
        due(-1, x::firstDeadMarking);
        x.setOutput(3, 3, 1);
        due(false, x::isComplete);
        begin(46);
        due(true, () -> x.canFire(3));
        due(false, () -> x.canFire(4));
        begin(44);
        due(0, x::deadMarkings);
        x.setInput(3, 3, 1);
        due(true, x::isComplete);
        due(1, x::deadMarkings);
        begin(43);
        due(149, x::firstDeadMarking);
        begin(47);
        // A transition without an effect leads home at once; one that takes 9, from 10 tokens.
        PetriNet y = made("net 1 2;tokens 0 1;out 0 0 1;");
        due(true, y::returnsHome);
        y.setInput(0, 1, 9);
        due(true, y::returnsHome);
        y.setInhibitor(0, 1, 9);
        due(false, y::returnsHome);
    }

    private static void promises43To48() {
        PetriNet x = new PetriNet();
        begin(43);
        due(-1, x::firstDeadMarking);
        begin(44);
        due(0, x::deadMarkings);
        PetriNet y = made("net 3 2;tokens 0 2;in 0 0 1;out 0 1 1;in 0 1 1;out 1 2 1;");
        begin(43);
        due(3, y::firstDeadMarking);
        begin(44);
        due(6, y::markingCount);
        due(3, y::deadMarkings);
        y.run(5);
        due(1, y::deadMarkings);
        begin(43);
        due(0, y::firstDeadMarking);
        begin(45);
        due(3, () -> x.bound(1));
        due(1, () -> x.bound(3));
        due(0, () -> y.bound(0));
        due(1, () -> y.bound(2));
        due(5, () -> made("net 1 1;tokens 0 5;in 0 0 1;").bound(0));
        due(OUT_OF_BOUNDS, () -> x.bound(4));
        due(OUT_OF_BOUNDS, () -> x.bound(-1));
        begin(46);
        due(true, () -> x.canFire(2));
        due(true, () -> x.canFire(0));
        due(false, () -> y.canFire(0));
        due(true, () -> made("net 1 1;tokens 0 1;in 0 0 1;").canFire(0));
        due(OUT_OF_BOUNDS, () -> x.canFire(4));
        due(OUT_OF_BOUNDS, () -> x.canFire(-1));
        begin(47);
        due(true, x::returnsHome);
        due(false, y::returnsHome);
        due(true, made("net 1 1;")::returnsHome);
        due(false, made("net 1 1;out 0 0 1;")::returnsHome);
        due(true, made("net 1 2;out 0 0 1;in 0 1 3;")::returnsHome);
        begin(48);
        due(1, () -> x.distanceToEmpty(2));
        due(0, () -> x.distanceToEmpty(3));
        due(1, () -> x.distanceToEmpty(1));
        due(-1, () -> made("net 2 1;tokens 0 1;").distanceToEmpty(0));
        due(5, () -> made("net 2 1;tokens 0 5;in 0 0 1;").distanceToEmpty(0));
        due(OUT_OF_BOUNDS, () -> x.distanceToEmpty(4));
        due(OUT_OF_BOUNDS, () -> x.distanceToEmpty(-1));
    }

    private static void promises49To51() {
        begin(49);
        PetriNet x = new PetriNet();
        due(true, () -> x.isPlaceInvariant(0));
        due(true, () -> x.isPlaceInvariant(1011));
        due(true, () -> x.isPlaceInvariant(1100));
        due(true, () -> x.isPlaceInvariant(2111));
        due(false, () -> x.isPlaceInvariant(1));
        due(false, () -> x.isPlaceInvariant(1101));
        due(ARGUMENT, () -> x.isPlaceInvariant(10000));
        due(ARGUMENT, () -> x.isPlaceInvariant(101011));
        due(ARGUMENT, () -> x.isPlaceInvariant(-1));
        due(ARGUMENT, () -> x.isPlaceInvariant(Integer.MIN_VALUE));
        due(ARGUMENT, () -> x.isPlaceInvariant(Integer.MAX_VALUE));
        PetriNet y = made("net 8 10;in 7 9 1;out 9 0 9;");
        due(true, () -> y.isPlaceInvariant(90000001));
        due(false, () -> y.isPlaceInvariant(80000001));
        due(ARGUMENT, () -> y.isPlaceInvariant(190000001));
        due(ARGUMENT, () -> y.isPlaceInvariant(1090000001));
        begin(50);
        due(true, () -> x.isTransitionInvariant(0));
        due(true, () -> x.isTransitionInvariant(111));
        due(true, () -> x.isTransitionInvariant(1002));
        due(false, () -> x.isTransitionInvariant(1));
        due(false, () -> x.isTransitionInvariant(1001));
        due(ARGUMENT, () -> x.isTransitionInvariant(10111));
        due(ARGUMENT, () -> x.isTransitionInvariant(-111));
        due(ARGUMENT, () -> x.isTransitionInvariant(Integer.MAX_VALUE));
        PetriNet z = made("net 1 10;in 0 9 2;out 0 0 1;");
        due(true, () -> z.isTransitionInvariant(1000000002));
        due(false, () -> z.isTransitionInvariant(2000000002));
        due(true, () -> z.isTransitionInvariant(2000000004));
        due(false, () -> z.isTransitionInvariant(Integer.MAX_VALUE));
        begin(51);
        due(3, () -> x.weightedTokens(1011));
        due(0, () -> x.weightedTokens(0));
        due(9 + 18 + 9, () -> x.weightedTokens(9999));
        due(ARGUMENT, () -> x.weightedTokens(10000));
        due(ARGUMENT, () -> x.weightedTokens(-1));
        due(ARGUMENT, () -> x.weightedTokens(Integer.MAX_VALUE));
        y.setTokens(7, 30);
        y.setTokens(0, 1);
        due(275, () -> y.weightedTokens(90000005));
        due(ARGUMENT, () -> y.weightedTokens(100000000));
    }

    private static void promises52To54() {
        PetriNet x = new PetriNet();
        PetriNet all = made("net 8 1;");
        PetriNet none = made("net 2 1;out 0 0 1;out 0 1 2;");
        PetriNet high = made("net 8 2;in 7 0 2;out 0 5 2;in 6 1 1;out 1 0 2;in 4 1 1;in 1 0 1;in 2 0 1;in 3 0 1;");
        begin(52);
        due(2, x::simpleInvariants);
        due(255, all::simpleInvariants);
        due(0, none::simpleInvariants);
        due(9, high::simpleInvariants);
        begin(53);
        due(1011, x::smallestInvariant);
        due(1, all::smallestInvariant);
        due(-1, none::smallestInvariant);
        due(100110, high::smallestInvariant);
        due(11111111, made("net 8 1;in 0 0 7;out 0 1 1;out 0 2 1;out 0 3 1;out 0 4 1;out 0 5 1;out 0 6 1;out 0 7 1;")::smallestInvariant);
        begin(54);
        due(15, x::coveredPlaces);
        due(255, all::coveredPlaces);
        due(0, none::coveredPlaces);
        due(255, high::coveredPlaces);
        due(1, made("net 2 1;out 0 1 1;")::coveredPlaces);
    }

    private static void promises55And56() {
        begin(55);
        PetriNet x = new PetriNet();
        due(0, () -> x.tokensAfterRun(3, 0));
        due(1, () -> x.tokensAfterRun(3, 1));
        due(0, () -> x.tokensAfterRun(3, 2));
        due(2, () -> x.tokensAfterRun(0, 2));
        due(ARGUMENT, () -> x.tokensAfterRun(0, -1));
        due(ARGUMENT, () -> x.tokensAfterRun(0, 201));
        due(OUT_OF_BOUNDS, () -> x.tokensAfterRun(4, 201));
        due(OUT_OF_BOUNDS, () -> x.tokensAfterRun(-1, 0));
        due(stateOf(new PetriNet()), () -> stateOf(x));
        due(0, x::undoCount);
        for (int number = 1; number <= 200; number += 7) {
            PetriNet y = new PetriNet();
            y.run(number);
            final int n = number;
            due(y.tokens(1), () -> x.tokensAfterRun(1, n));
        }
        begin(56);
        due(-1, x::runLength);
        due(0, made("net 1 1;in 0 0 1;")::runLength);
        due(30, made("net 1 1;out 0 0 1;")::runLength);
        // 200 firings: seven places with room for 28 or 29 tokens, filled by one transition each.
        PetriNet z = made("net 7 7;capacity 0 28;capacity 1 28;capacity 2 28;capacity 3 29;capacity 4 29;capacity 5 29;"
            + "capacity 6 29;out 0 0 1;out 1 1 1;out 2 2 1;out 3 3 1;out 4 4 1;out 5 5 1;out 6 6 1;");
        due(200, z::runLength);
        z.setCapacity(0, 29);
        due(-1, z::runLength);
        z.setTokens(0, 2);
        due(199, z::runLength);
        due(0, () -> z.firings(0));
    }

    private static void promises57To59() {
        begin(57);
        PetriNet x = new PetriNet();
        due(4.0 / 92.0, x::load);
        due(0.0, made("net 2 1;")::load);
        due(1.0, made("net 1 1;capacity 0 7;tokens 0 7;")::load);
        due(1.0, made("net 1 1;capacity 0 1;tokens 0 1;")::load);
        due(7.0 / 240.0, made("net 8 1;tokens 7 7;")::load);
        begin(58);
        due(3.0f / 4.0f, x::enabledShare);
        due(0.0f, made("net 1 3;in 0 0 1;in 0 1 1;in 0 2 1;")::enabledShare);
        due(2.0f / 3.0f, made("net 1 3;in 0 0 1;")::enabledShare);
        due(1.0f, made("net 1 10;")::enabledShare);
        due(1.0f, made("net 1 1;")::enabledShare);
        begin(59);
        due(0, x::violations);
        due(0, made("net 8 10;tokens 0 30;tokens 1 30;in 0 0 1;out 0 2 1;in 1 1 1;out 1 3 1;")::violations);
        due(0, made("net 8 1;")::violations);
    }

    private static void promises60And61() {
        begin(61);
        PetriNet x = new PetriNet();
        due(-1, () -> x.reportByte(0));
        begin(60);
        due(13, x::writeMarking);
        due("1,2,1,0 0,1,3", () -> report(x));
        PetriNet full = made("net 8 10;tokens 0 30;tokens 1 29;tokens 2 10;tokens 3 11;tokens 4 19;tokens 5 20;tokens 6 21;tokens 7 30;");
        due("30,29,10,11,19,20,21,30 0,1,2,3,4,5,6,7,8,9", () -> report(full));
        due(43, full::writeMarking);
        due("9 -", () -> report(made("net 1 1;tokens 0 9;inhibit 0 0 1;")));
        due("0,0 1", () -> report(made("net 2 2;in 0 0 1;")));
        begin(61);
        due(49, () -> x.reportByte(0));
        due(44, () -> x.reportByte(1));
        due(32, () -> x.reportByte(7));
        due(51, () -> x.reportByte(12));
        due(-1, () -> x.reportByte(13));
        due(-1, () -> x.reportByte(-1));
        due(-1, () -> x.reportByte(Integer.MAX_VALUE));
        due(-1, () -> x.reportByte(Integer.MIN_VALUE));
        // The report stays as it was written until it is written anew.
        script(x, "net 1 1;tokens 0 9;in 0 0 9;inhibit 0 0 1;");
        due(51, () -> x.reportByte(12));
        due(3, x::writeMarking);
        due(57, () -> x.reportByte(0));
        due(-1, () -> x.reportByte(3));
        x.undo();
        due(57, () -> x.reportByte(0));
        x.saveSnapshot();
        x.restoreSnapshot();
        due(57, () -> x.reportByte(0));
    }

    public static void main(String[] args) {
        promise1();
        promises2To4();
        promise5();
        scriptsReplaceEverything();
        scriptsWithAnError();
        promises6And7();
        promises8To10();
        indicesOfArcs();
        promises11And12();
        promises13And14();
        promises15And16();
        undoOfEveryChange();
        promises17And18();
        promises19And20();
        promises21To29();
        promises30And31();
        promises32To35();
        promises36And37();
        promises38To42();
        fullExploration();
        lastMarkings();
        promises43To48();
        promises49To51();
        promises52To54();
        promises55And56();
        promises57To59();
        promises60And61();
        finish();
    }
}
