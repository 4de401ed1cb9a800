import java.math.BigInteger;
import java.util.ArrayList;
import java.util.List;

/** The edges of the input buffer and of scripts: promises 2 to 5, 19 and 20, and the terms of scripts. */
public final class ScriptEdgesTest extends Checks {
    // Every command once, with a space between all tokens.
    private static final String ALL = "net 2 3 ; tokens 0 4 ; capacity 1 5 ; in 0 1 1 ; out 2 1 1 ; inhibit 1 0 3 ; fire 0 ; run 7 ;";

    private static String spaces(int count) {
        return " ".repeat(count);
    }

    /** A script of just this length that fires transition 0 once at its end. */
    private static String scriptOfLength(int length) {
        String start = "net 1 1;";
        String end = "fire 0;";
        return start + spaces(length - start.length() - end.length()) + end;
    }

    private static void bufferFills() {
        PetriNet x = new PetriNet();
        begin(2, "the new length of the buffer, or NO_ROOM if it would be greater than 500");
        for (int length = 20; length <= 500; length += 20) {
            final int want = length;
            due(want, () -> x.append(0x20202020, 0x20202020, 0x20202020, 0x20202020, 0x20202020));
        }
        begin(2, "NO_ROOM (and nothing is appended)");
        due(-2, () -> x.append(0x3f3f3f3f, 0x3f3f3f3f, 0x3f3f3f3f, 0x3f3f3f3f, 0x3f3f3f3f));
        due(500, x::inputLength);
        for (int length = 499; length >= 481; length -= 6) {
            x.truncateInput(length);
            due(-2, () -> x.append(0x3f3f3f3f, 0x3f3f3f3f, 0x3f3f3f3f, 0x3f3f3f3f, 0x3f3f3f3f));
            final int want = length;
            due(want, x::inputLength);
        }
        due(-1, x::runScript);
        due("1 at 481", () -> errorOf(x));
        begin(2, "a length of just 500 is not greater than 500");
        type(x, spaces(480));
        due("500 500", () -> x.append(-1, 0, 0, 0, 0) + " " + x.inputLength());
        due(-1, x::runScript);
        due("1 at 480", () -> errorOf(x));
        due(20, () -> x.append(0, 0, 0, 0, 0));
    }

    /** The script is good only if each of the 20 bytes stands where it belongs. */
    private static void orderOfBytes() {
        begin(2, "the four bytes of each parameter, the most significant byte first");
        String text = "net 1 1;tokens 0 17;";
        PetriNet x = new PetriNet();
        due(20, () -> x.append(0x6e657420, 0x3120313b, 0x746f6b65, 0x6e732030, 0x2031373b));
        due(17, x::runScript);
        for (int at = 0; at < 20; at++) {
            int[] word = new int[5];
            for (int i = 0; i < 5; i++) {
                word[i] = four(spaces(20), 4 * i);
            }
            // A byte above 127 makes the parameter negative in its first place, and must not touch its neighbours.
            word[at / 4] = word[at / 4] & ~(255 << 24 - 8 * (at % 4)) | 200 << 24 - 8 * (at % 4);
            final int want = at;
            due("20 -1 1 at " + want, () -> x.append(word[0], word[1], word[2], word[3], word[4]) + " " + x.runScript()
                + " " + errorOf(x));
        }
        due(20, () -> x.append(four(text, 0), four(text, 4), four(text, 8), four(text, 12), four(text, 16)));
        due(17, x::runScript);
    }

    private static void truncation() {
        PetriNet x = new PetriNet();
        begin(3, "nothing there yet: the only length is 0");
        due(0, () -> x.truncateInput(0));
        due(ARGUMENT, () -> x.truncateInput(1));
        due(ARGUMENT, () -> x.truncateInput(-1));
        begin(3, "the buffer is full: the largest length is 500");
        type(x, spaces(500));
        due(ARGUMENT, () -> x.truncateInput(501));
        due("500 500", () -> x.truncateInput(500) + " " + x.inputLength());
        due("499 499", () -> x.truncateInput(499) + " " + x.inputLength());
        due(ARGUMENT, () -> x.truncateInput(500));
        due("0 0", () -> x.truncateInput(0) + " " + x.inputLength());
        begin(3, "what follows is appended behind the new end");
        type(x, "net 1 1;????????????");
        due(8, () -> x.truncateInput(8));
        append(x, "tokens 0 30;        ");
        due("28 30", () -> x.inputLength() + " " + x.runScript());
    }

    private static void lengthOfInput() {
        PetriNet x = new PetriNet();
        begin(4, "nothing there yet, one append, full, and empty after a script with and without an error");
        due(0, x::inputLength);
        x.append(0, 0, 0, 0, 0);
        due(20, x::inputLength);
        due("-1 0", () -> x.runScript() + " " + x.inputLength());
        due("-1 0", () -> x.runScript() + " " + x.inputLength());
        type(x, scriptOfLength(500));
        due("500 0 0", () -> x.inputLength() + " " + x.runScript() + " " + x.inputLength());
        begin(4, "no change and no undo touches the input buffer");
        type(x, "net");
        x.run(1);
        x.undo();
        x.saveSnapshot();
        x.restoreSnapshot();
        due(3, x::inputLength);
    }

    private static void smallestAndLargestScript() {
        PetriNet x = new PetriNet();
        begin(5, "an empty input buffer");
        String before = stateOf(x);
        due("-1 1 at 0", () -> x.runScript() + " " + errorOf(x));
        due(before, () -> stateOf(x));
        due(0, x::undoCount);
        begin(5, "the smallest script");
        due("0 0 at -1 1", () -> script(x, "net1 1;") + " " + errorOf(x) + " " + x.undoCount());
        begin(5, "a text of at most 500 bytes");
        due("0 0 at -1", () -> script(x, scriptOfLength(500)) + " " + errorOf(x));
        due(1, () -> x.firings(0));
        due("0 0 at -1", () -> script(x, scriptOfLength(499)) + " " + errorOf(x));
        due("-1 1 at 499", () -> script(x, scriptOfLength(499) + "?") + " " + errorOf(x));
        due("-1 1 at 500", () -> script(x, scriptOfLength(500).replace("fire 0;", " fire 0")) + " " + errorOf(x));
        due("-1 1 at 499", () -> script(x, scriptOfLength(499) + "r") + " " + errorOf(x));
        due("-1 1 at 499", () -> script(x, scriptOfLength(499) + "1") + " " + errorOf(x));
        due("0 0 at -1", () -> script(x, scriptOfLength(499) + " ") + " " + errorOf(x));
        begin(5, "bytes behind the end of the text are no part of it");
        for (String text : new String[] {"net 1 1;tokens", "net 1 1;tokens 0 1", "net 1 1;tokens 0 1;", "net 1 1;run 5 "}) {
            PetriNet fresh = new PetriNet();
            for (char behind : new char[] {'s', '1', ';', ' ', '?'}) {
                type(x, text + behind);
                x.truncateInput(text.length());
                due(script(fresh, text) + " " + errorOf(fresh), () -> x.runScript() + " " + errorOf(x));
            }
        }
        begin(5, "the number of all tokens: the fewest and the most");
        due(0, () -> script(x, "net 8 10;"));
        StringBuilder full = new StringBuilder("net 8 10;");
        for (int p = 0; p < 8; p++) {
            full.append("tokens ").append(p).append(" 30;");
        }
        due("240 240", () -> script(x, full.toString()) + " " + x.totalTokens());
    }

    private static void scriptsReplaceEverything() {
        begin(5, "a script without an error replaces everything");
        StringBuilder text = new StringBuilder("net 8 10;run 200;");
        for (int t = 0; t < 10; t++) {
            text.append("in ").append(t % 8).append(' ').append(t).append(" 9;out ").append(t).append(" 7 9;");
        }
        for (int p = 0; p < 8; p++) {
            text.append("tokens ").append(p).append(" 1;capacity ").append(p).append(" 2;");
        }
        PetriNet x = made(text.toString());
        PetriNet fresh = made("net 8 10;");
        due("20 9 9 3", () -> x.firings(9) + " " + x.setInput(1, 9, 9) + " " + x.setOutput(9, 7, 9) + " " + x.undoCount());
        due("0 0", () -> script(x, "net 1 1;") + " " + x.totalTokens());
        due(0, () -> script(x, "net 8 10;"));
        due(stateOf(fresh), () -> stateOf(x));
        for (int p = 0; p < 8; p++) {
            final int place = p;
            due("0 30", () -> x.tokens(place) + " " + x.capacity(place));
        }
        begin(5, "at first all weights and limits are 0");
        PetriNet limits = made("net 2 2;in 0 0 1;out 0 0 2;inhibit 0 0 3;in 1 1 4;out 1 1 5;inhibit 1 1 6;in 1 0 7;out 1 0 8;inhibit 0 1 9;");
        due(0, () -> script(limits, "net 2 2;"));
        due("0 0 0, 0 0 0, 0 0 0, 0 0 0, ", () -> weightsOf(limits));
    }

    private static void scriptsWithAnErrorChangeNothing() {
        begin(5, "if the script has an error, only the input buffer and the script error change");
        for (String text : new String[] {"", "net 1 1;run 200;tokens 0 9;?", "net 1 1;tokens 0 31;", "net 1 1;in 0 0 1;fire 0;", "net 8 10;"
            + "capacity 0 1;tokens 0 1;in 0 0 9;out 0 0 9;inhibit 0 0 9;run"}) {
            PetriNet x = new PetriNet();
            x.fire(0);
            x.saveSnapshot();
            x.fire(1);
            int length = x.writeMarking();
            String before = stateOf(x);
            due("-1 0 2", () -> script(x, text) + " " + x.inputLength() + " " + x.undoCount());
            due(before, () -> stateOf(x));
            due("0,2,0,1 2 -1", () -> bytesOfReport(x, length) + " " + x.reportByte(length));
            due("1 0", () -> x.undo() + " " + x.undo());
            due(4, x::restoreSnapshot);
            due("3 0", () -> x.firings(0) + " " + x.firings(1));
        }
    }

    private static void errorsOfScripts() {
        PetriNet x = new PetriNet();
        begin(19, "0 if no script was run");
        due(0, x::scriptErrorKind);
        begin(20, "NONE if scriptErrorKind() is 0");
        due(-1, x::scriptErrorOffset);
        begin(19, "the kinds 1 to 3, and 0 if it had no error");
        due("-1 1 at 3", () -> script(x, "net") + " " + errorOf(x));
        due("-1 2 at 4", () -> script(x, "net 9 1;") + " " + errorOf(x));
        due("-1 3 at 22", () -> script(x, "net 1 1;in 0 0 1;fire 0;") + " " + errorOf(x));
        due("0 0 at -1", () -> script(x, "net 1 1;") + " " + errorOf(x));
        begin(20, "an offset of 0 is an offset");
        due("-1 1 at 0", () -> script(x, "nix") + " " + errorOf(x));
        begin(20, "undo and the snapshot leave the script error alone");
        x.saveSnapshot();
        x.undo();
        x.restoreSnapshot();
        x.fire(0);
        due("1 at 0", () -> errorOf(x));
        begin(20, "a typed text is no script yet");
        type(x, "net 9 1;");
        due("1 at 0", () -> errorOf(x));
    }

    private static void everyByteBetweenTokens() {
        begin(20, "spaces (byte 32) and line feeds (byte 10) separate tokens and are otherwise ignored");
        for (int b = 0; b < 256; b++) {
            boolean separates = b == 32 || b == 10;
            error(separates ? "0 at -1" : "1 at 8", "net 1 1;" + (char) b);
            error(separates ? "0 at -1" : "1 at 0", (char) b + "net 1 1;");
            error(separates ? "0 at -1" : "1 at 8", "net 1 1;" + (char) b + "run 1;");
        }
    }

    private static void everyByteInNumbers() {
        begin(20, "a number is a maximal run of 1 to 3 digits");
        for (int b = 0; b < 256; b++) {
            boolean separates = b == 32 || b == 10;
            boolean digit = b >= '0' && b <= '9';
            // A digit in the middle makes one number of three digits, which is out of its range.
            error(separates ? "0 at -1" : digit ? "2 at 4" : "1 at 5", "net 1" + (char) b + "1;");
            // Without a number ahead of it, the 1 is the number of places, and the semicolon comes too early.
            String alone = digit ? b == '0' || b == '9' ? "2 at 4" : "0 at -1" : "1 at 4";
            error(separates ? "1 at 7" : alone, "net " + (char) b + " 1;");
        }
    }

    private static void everyByteInWords() {
        begin(20, "a word is a maximal run of the letters a to z");
        for (int b = 0; b < 256; b++) {
            boolean letter = b >= 'a' && b <= 'z';
            boolean digit = b >= '0' && b <= '9';
            // A letter makes another word of "net"; a digit is the number of places, and then one number is too many.
            String want = letter ? "1 at 0" : b == '0' || b == '9' ? "2 at 3" : digit ? "1 at 7" : "1 at 3";
            error(b == 32 || b == 10 ? "0 at -1" : want, "net" + (char) b + " 1 1;");
        }
    }

    /** Words with one letter too many, too few, or another one, at each place of each word of the grammar. */
    private static void wordsBesideTheGrammar() {
        begin(20, "a word that the grammar does not know");
        List<String> tokens = tokensOf(ALL);
        int offset = 0;
        for (int i = 0; i < tokens.size(); i++) {
            String word = tokens.get(i);
            for (int at = 0; word.length() > 1 && at < word.length(); at++) {
                String ahead = word.substring(0, at);
                String behind = word.substring(at + 1);
                for (String other : new String[] {ahead + behind, ahead + word.charAt(at) + word.charAt(at) + behind,
                    ahead + 'q' + behind, word + word.charAt(at)}) {
                    List<String> spoilt = new ArrayList<>(tokens);
                    spoilt.set(i, other);
                    error("1 at " + offset, String.join(" ", spoilt));
                }
            }
            offset += word.length() + 1;
        }
    }

    private static List<String> tokensOf(String text) {
        return new ArrayList<>(List.of(text.split(" ")));
    }

    private static void endOfTextEverywhere() {
        begin(20, "the end of the text inside a statement (the offset is then the length of the text)");
        List<String> tokens = tokensOf(ALL);
        StringBuilder text = new StringBuilder();
        for (String token : tokens) {
            text.append(token);
            boolean whole = token.equals(";");
            error(whole ? "0 at -1" : "1 at " + text.length(), text.toString());
            text.append(" ");
            error(whole ? "0 at -1" : "1 at " + text.length(), text.toString());
            error(whole ? "0 at -1" : "1 at " + (text.length() + 2), text + "\n\n");
        }
        error("1 at 0", "");
        error("1 at 1", " ");
        error("1 at 500", spaces(500));
    }

    private static void wrongTokenEverywhere() {
        begin(19, "a token that the grammar does not allow at this place, or a byte that does not begin a token");
        List<String> tokens = tokensOf(ALL);
        int offset = 0;
        for (int i = 0; i < tokens.size(); i++) {
            String due = tokens.get(i);
            for (String other : new String[] {"x", "net", ";", "1", "*", "N", "-1", "0001", "1000"}) {
                boolean sameKind = isNumber(due) && isNumber(other) && other.length() < 4 || due.equals(other);
                if (!sameKind) {
                    List<String> spoilt = new ArrayList<>(tokens);
                    spoilt.set(i, other);
                    error("1 at " + offset, String.join(" ", spoilt));
                }
            }
            offset += due.length() + 1;
        }
        error("1 at " + ALL.length(), ALL + "?");
        error("1 at " + (ALL.length() + 1), ALL + " net 1 1;");
    }

    private static boolean isNumber(String token) {
        return token.charAt(0) >= '0' && token.charAt(0) <= '9';
    }

    /** The number between < and > may be low to high, at most 999, whatever zeros stand ahead of it. */
    private static void range(String text, int low, int high) {
        int offset = text.indexOf('<');
        String before = text.substring(0, offset);
        String after = text.substring(text.indexOf('>') + 1);
        for (int number = 0; number <= 999; number++) {
            boolean fits = number >= low && number <= high;
            boolean isEdge = number == 0 || number >= low - 2 && number <= high + 2 || number % 37 == 0 || number == 999;
            if (isEdge) {
                String want = fits ? "0 at -1" : "2 at " + offset;
                error(want, before + number + after);
                error(want, before + String.format("%03d", number) + after);
                error("1 at " + offset, before + String.format("%04d", number) + after);
            }
        }
        // Numbers that would be in range if they were cut to 8, 16, .. 64 bits.
        for (int bits = 8; bits <= 64; bits += 8) {
            BigInteger wraps = BigInteger.ONE.shiftLeft(bits).add(BigInteger.valueOf(low));
            error((bits == 8 ? "2 at " : "1 at ") + offset, before + wraps + after);
        }
        error("1 at " + offset, before + "1000" + after);
    }

    private static void ranges() {
        begin(19, "a number that is out of its range: 1 to 8 places and 1 to 10 transitions");
        range("net <1> 1;", 1, 8);
        range("net 1 <1>;", 1, 10);
        begin(19, "a number that is out of its range: places and transitions of this net");
        range("net 3 5;tokens <0> 0;", 0, 2);
        range("net 3 5;capacity <0> 9;", 0, 2);
        range("net 3 5;in <0> 0 9;", 0, 2);
        range("net 3 5;in 0 <0> 9;", 0, 4);
        range("net 3 5;out <0> 0 9;", 0, 4);
        range("net 3 5;out 0 <0> 9;", 0, 2);
        range("net 3 5;inhibit <0> 0 9;", 0, 2);
        range("net 3 5;inhibit 0 <0> 9;", 0, 4);
        range("net 3 5;fire <0>;", 0, 4);
        range("net 8 10;tokens <0> 0;", 0, 7);
        range("net 8 10;fire <0>;", 0, 9);
        range("net 1 1;tokens <0> 0;", 0, 0);
        range("net 1 1;fire <0>;", 0, 0);
        begin(19, "a number that is out of its range: weights and limits from 0 to 9");
        range("net 3 5;in 2 4 <0>;", 0, 9);
        range("net 3 5;out 4 2 <0>;", 0, 9);
        range("net 3 5;inhibit 2 4 <0>;", 0, 9);
        begin(19, "a number that is out of its range: run fires at most 1 to 200 transitions");
        range("net 1 1;run <1>;", 1, 200);
        begin(19, "a number that is out of its range: tokens above the capacity");
        range("net 2 1;tokens 1 <0>;", 0, 30);
        range("net 2 1;capacity 1 7;tokens 1 <0>;", 0, 7);
        range("net 2 1;capacity 0 7;tokens 1 <0>;", 0, 30);
        begin(19, "a number that is out of its range: a capacity below the tokens, or not from 1 to 30");
        range("net 2 1;capacity 1 <1>;", 1, 30);
        range("net 2 1;tokens 1 7;capacity 1 <7>;", 7, 30);
        range("net 2 1;tokens 0 7;capacity 1 <1>;", 1, 30);
        range("net 2 1;tokens 1 30;capacity 1 <30>;", 30, 30);
        range("net 1 1;out 0 0 1;run 3;capacity 0 <3>;", 3, 30);
    }

    private static void firingInScripts() {
        begin(19, "the transition of fire if it is not enabled, at the first byte of its token");
        error("3 at 22", "net 1 1;in 0 0 1;fire 0;");
        error("3 at 24", "net 1 1;in 0 0 1;fire\n  000;");
        error("0 at -1", "net 1 1;in 0 0 1;tokens 0 1;fire 0;");
        error("3 at 40", "net 1 1;in 0 0 1;tokens 0 1;fire 0;fire 0;");
        error("3 at 38", "net 1 1;inhibit 0 0 1;tokens 0 1;fire 0;");
        error("0 at -1", "net 1 1;inhibit 0 0 1;fire 0;");
        error("0 at -1", "net 1 1;inhibit 0 0 2;tokens 0 1;fire 0;");
        error("3 at 35", "net 1 1;out 0 0 1;tokens 0 30;fire 0;");
        error("0 at -1", "net 1 1;out 0 0 1;tokens 0 29;fire 0;");
        begin(19, "a run that finds no transition is no error");
        error("0 at -1", "net 1 1;in 0 0 1;run 200;run 1;");
        PetriNet x = made("net 1 1;out 0 0 1;run 29;");
        begin(5, "run fires at most N transitions");
        due("29 29", () -> x.tokens(0) + " " + x.firings(0));
        script(x, "net 1 1;out 0 0 1;run 31;");
        due("30 30", () -> x.tokens(0) + " " + x.firings(0));
        script(x, "net 1 1;run 200;run 200;run 1;");
        due("0 401", () -> x.tokens(0) + " " + x.firings(0));
    }

    private static void firstErrorCounts() {
        begin(20, "the first error in the text is reported");
        error("1 at 0", "? net 9 11;");
        error("2 at 4", "net 9 11;");
        error("2 at 4", "net 0 ?");
        error("1 at 4", "net ? 0;");
        error("2 at 15", "net 1 1;tokens 1 31 ?");
        error("2 at 17", "net 1 1;tokens 0 31 ?");
        error("1 at 17", "net 1 1;tokens 0 ?; tokens 1 1;");
        error("2 at 17", "net 1 1;tokens 0 31");
        error("3 at 22", "net 1 1;in 0 0 1;fire 0");
        error("3 at 22", "net 1 1;in 0 0 1;fire 0; tokens 1 1; ?");
        error("2 at 17", "net 1 1;tokens 0 31; in 0 0 1; fire 0;");
        begin(5, "commands are executed one after the other");
        error("0 at -1", "net 1 1;tokens 0 9;tokens 0 1;capacity 0 1;");
        error("2 at 30", "net 1 1;tokens 0 9;capacity 0 8;");
        error("2 at 30", "net 1 1;capacity 0 8;tokens 0 9;");
    }

    public static void main(String[] args) {
        bufferFills();
        orderOfBytes();
        truncation();
        lengthOfInput();
        smallestAndLargestScript();
        scriptsReplaceEverything();
        scriptsWithAnErrorChangeNothing();
        errorsOfScripts();
        everyByteBetweenTokens();
        everyByteInNumbers();
        everyByteInWords();
        wordsBesideTheGrammar();
        endOfTextEverywhere();
        wrongTokenEverywhere();
        ranges();
        firingInScripts();
        firstErrorCounts();
        finish();
    }
}
