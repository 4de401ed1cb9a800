import java.util.Objects;

/** What the tests share: checks that name their promise, and short ways to scripts and to states. */
abstract class Checks {
    /** A call whose answer, or the name of the exception that it throws, is looked at. */
    interface Call {
        Object answer();
    }

    static final String OUT_OF_BOUNDS = "IndexOutOfBoundsException";
    static final String ARGUMENT = "IllegalArgumentException";
    static final String STATE = "IllegalStateException";
    static final String NO_ELEMENT = "NoSuchElementException";

    /** The methods of the document, promise by promise: the first one is promise 2. */
    static final String[] FACE = {
        "int append(int,int,int,int,int)",
        "int truncateInput(int) IllegalArgumentException",
        "int inputLength()",
        "int runScript()",
        "int setTokens(int,int) IndexOutOfBoundsException IllegalArgumentException",
        "int setCapacity(int,int) IndexOutOfBoundsException IllegalArgumentException IllegalStateException",
        "int setInput(int,int,int) IndexOutOfBoundsException IllegalArgumentException",
        "int setOutput(int,int,int) IndexOutOfBoundsException IllegalArgumentException",
        "int setInhibitor(int,int,int) IndexOutOfBoundsException IllegalArgumentException",
        "int fire(int) IndexOutOfBoundsException IllegalStateException",
        "int run(int) IllegalArgumentException",
        "int moveToMarking(int) NoSuchElementException",
        "int reverseNet()",
        "int undo()",
        "int undoCount()",
        "int saveSnapshot()",
        "int restoreSnapshot() NoSuchElementException",
        "int scriptErrorKind()",
        "int scriptErrorOffset()",
        "int placeCount()",
        "int transitionCount()",
        "int tokens(int) IndexOutOfBoundsException",
        "int capacity(int) IndexOutOfBoundsException",
        "int effect(int,int) IndexOutOfBoundsException",
        "int totalTokens()",
        "int inputPlaces(int) IndexOutOfBoundsException",
        "int outputPlaces(int) IndexOutOfBoundsException",
        "int consumers(int) IndexOutOfBoundsException",
        "int whyNotEnabled(int) IndexOutOfBoundsException",
        "int blockingPlace(int) IndexOutOfBoundsException",
        "int enabledTransitions()",
        "boolean isDead()",
        "int firings(int) IndexOutOfBoundsException",
        "int nextOfRun()",
        "int firesInRow(int) IndexOutOfBoundsException",
        "boolean areInConflict(int,int) IndexOutOfBoundsException",
        "int markingCount()",
        "boolean isComplete()",
        "int markingTokens(int,int) IndexOutOfBoundsException NoSuchElementException",
        "int markingDistance(int) NoSuchElementException",
        "int markingTransition(int) NoSuchElementException",
        "int firstDeadMarking()",
        "int deadMarkings()",
        "int bound(int) IndexOutOfBoundsException",
        "boolean canFire(int) IndexOutOfBoundsException",
        "boolean returnsHome()",
        "int distanceToEmpty(int) IndexOutOfBoundsException",
        "boolean isPlaceInvariant(int) IllegalArgumentException",
        "boolean isTransitionInvariant(int) IllegalArgumentException",
        "int weightedTokens(int) IllegalArgumentException",
        "int simpleInvariants()",
        "int smallestInvariant()",
        "int coveredPlaces()",
        "int tokensAfterRun(int,int) IndexOutOfBoundsException IllegalArgumentException",
        "int runLength()",
        "double load()",
        "float enabledShare()",
        "int violations()",
        "int writeMarking()",
        "int reportByte(int)",
    };

    static int wrong = 0;
    /** The checks since the last begin. */
    static int check = 0;
    private static int promise = 0;
    private static String sentence = "";

    /** The promise that is named after this method, or 0. */
    static int promiseOf(String method) {
        for (int i = 0; i < FACE.length; i++) {
            if (FACE[i].contains(" " + method + "(")) {
                return i + 2;
            }
        }
        return 0;
    }

    /** The checks that follow belong to this promise. */
    static void begin(int number) {
        begin(number, "");
    }

    /** The checks that follow belong to this sentence of the promise. */
    static void begin(int number, String words) {
        promise = number;
        sentence = words;
        check = 0;
    }

    static Object answerOf(Call call) {
        try {
            return call.answer();
        } catch (RuntimeException e) {
            return e.getClass().getSimpleName();
        }
    }

    static void due(Object want, Call call) {
        check++;
        Object got = answerOf(call);
        if (!Objects.equals(want, got)) {
            wrong++;
            System.out.println("promise " + promise + " (" + sentence + "), check " + check + ": answered " + got
                + ", due is " + want);
        }
    }

    static void finish() {
        System.out.println(wrong == 0 ? "all answers are as due" : wrong + " answers are not as due");
        if (wrong != 0) {
            System.exit(1);
        }
    }

    static int four(String text, int from) {
        int bytes = 0;
        for (int i = from; i < from + 4; i++) {
            bytes = bytes << 8 | (i < text.length() ? text.charAt(i) & 255 : 32);
        }
        return bytes;
    }

    /** Appends the text, filled up with spaces to full twenties of bytes. */
    static void append(PetriNet x, String text) {
        for (int i = 0; i < text.length(); i += 20) {
            x.append(four(text, i), four(text, i + 4), four(text, i + 8), four(text, i + 12), four(text, i + 16));
        }
    }

    /** Puts just these bytes into the input buffer. */
    static void type(PetriNet x, String text) {
        x.truncateInput(0);
        append(x, text);
        x.truncateInput(text.length());
    }

    static int script(PetriNet x, String text) {
        type(x, text);
        return x.runScript();
    }

    static PetriNet made(String text) {
        PetriNet x = new PetriNet();
        due(true, () -> script(x, text) >= 0);
        return x;
    }

    static String errorOf(PetriNet x) {
        return x.scriptErrorKind() + " at " + x.scriptErrorOffset();
    }

    /** Runs a script on a new object and tells its error as "kind at offset". */
    static void error(String want, String text) {
        PetriNet x = new PetriNet();
        due(want, () -> {
            int answer = script(x, text);
            String got = errorOf(x);
            boolean fits = (answer == PetriNet.NONE) == !got.equals("0 at -1");
            return fits ? got : "runScript answered " + answer + ", and " + got;
        });
    }

    static String bytesOfReport(PetriNet x, int length) {
        StringBuilder text = new StringBuilder();
        for (int i = 0; i < length; i++) {
            text.append((char) x.reportByte(i));
        }
        return text.toString();
    }

    static String report(PetriNet x) {
        return bytesOfReport(x, x.writeMarking());
    }

    /** All that undo and the snapshot restore, as far as calls show it that change nothing. */
    static String stateOf(PetriNet x) {
        int places = x.placeCount();
        int transitions = x.transitionCount();
        StringBuilder text = new StringBuilder();
        for (int p = 0; p < places; p++) {
            text.append(x.tokens(p)).append('/').append(x.capacity(p)).append(' ');
        }
        for (int t = 0; t < transitions; t++) {
            text.append('[').append(x.firings(t)).append(' ').append(x.inputPlaces(t)).append(' ').append(x.outputPlaces(t));
            for (int p = 0; p < places; p++) {
                text.append(' ').append(x.effect(t, p));
            }
            text.append(' ').append(x.whyNotEnabled(t)).append(' ').append(x.blockingPlace(t)).append(']');
        }
        return text.append(' ').append(x.markingCount()).append(' ').append(x.nextOfRun()).toString();
    }

    /** All weights and limits. They are set to 0 by this. */
    static String weightsOf(PetriNet x) {
        int places = x.placeCount();
        int transitions = x.transitionCount();
        StringBuilder text = new StringBuilder();
        for (int t = 0; t < transitions; t++) {
            for (int p = 0; p < places; p++) {
                text.append(x.setInput(p, t, 0)).append(' ').append(x.setOutput(t, p, 0)).append(' ');
                text.append(x.setInhibitor(p, t, 0)).append(", ");
            }
        }
        return text.toString();
    }
}
