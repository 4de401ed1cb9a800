import java.util.ArrayDeque;
import java.util.ArrayList;
import java.util.Arrays;
import java.util.Deque;
import java.util.LinkedHashMap;
import java.util.List;
import java.util.Map;
import java.util.NoSuchElementException;
import java.util.TreeSet;
import java.util.regex.Matcher;
import java.util.regex.Pattern;

/** Long mixed runs of calls, each answer compared with that of a slow model written from the document. */
public final class ModelTest extends Checks {
    /** A net as the document's terms tell it, without any of the shortcuts of the class. */
    private static final class Model {
        List<Integer> marking = new ArrayList<>();
        List<Integer> capacities = new ArrayList<>();
        List<Integer> fired = new ArrayList<>();
        int[][] in;
        int[][] out;
        int[][] inhibit;

        Model(int places, int transitions) {
            for (int p = 0; p < places; p++) {
                marking.add(0);
                capacities.add(30);
            }
            for (int t = 0; t < transitions; t++) {
                fired.add(0);
            }
            in = new int[places][transitions];
            out = new int[places][transitions];
            inhibit = new int[places][transitions];
        }

        Model copy() {
            Model made = new Model(0, 0);
            made.marking = new ArrayList<>(marking);
            made.capacities = new ArrayList<>(capacities);
            made.fired = new ArrayList<>(fired);
            made.in = deep(in);
            made.out = deep(out);
            made.inhibit = deep(inhibit);
            return made;
        }

        private static int[][] deep(int[][] rows) {
            int[][] made = new int[rows.length][];
            for (int i = 0; i < rows.length; i++) {
                made[i] = rows[i].clone();
            }
            return made;
        }

        int places() {
            return marking.size();
        }

        int transitions() {
            return fired.size();
        }

        /** The reason and the blocking place, or 0 and -1. */
        int[] obstacle(List<Integer> m, int t) {
            for (int p = 0; p < places(); p++) {
                if (m.get(p) < in[p][t]) {
                    return new int[] {1, p};
                }
            }
            for (int p = 0; p < places(); p++) {
                if (inhibit[p][t] != 0 && !(m.get(p) < inhibit[p][t])) {
                    return new int[] {2, p};
                }
            }
            for (int p = 0; p < places(); p++) {
                if (m.get(p) - in[p][t] + out[p][t] > capacities.get(p)) {
                    return new int[] {3, p};
                }
            }
            return new int[] {0, -1};
        }

        boolean enabled(List<Integer> m, int t) {
            return obstacle(m, t)[0] == 0;
        }

        List<Integer> after(List<Integer> m, int t) {
            List<Integer> made = new ArrayList<>();
            for (int p = 0; p < places(); p++) {
                made.add(m.get(p) - in[p][t] + out[p][t]);
            }
            return made;
        }

        int enabledSet(List<Integer> m) {
            int set = 0;
            for (int t = 0; t < transitions(); t++) {
                if (enabled(m, t)) {
                    set += (int) Math.pow(2, t);
                }
            }
            return set;
        }

        void fire(int t) {
            marking = after(marking, t);
            fired.set(t, fired.get(t) + 1);
        }

        int next() {
            TreeSet<Integer> candidates = new TreeSet<>();
            for (int t = 0; t < transitions(); t++) {
                if (enabled(marking, t)) {
                    candidates.add(fired.get(t) * 100 + t);
                }
            }
            return candidates.isEmpty() ? -1 : candidates.first() % 100;
        }

        int run(int number) {
            int count = 0;
            while (count < number && next() != -1) {
                fire(next());
                count++;
            }
            return count;
        }

        int sum() {
            return marking.stream().mapToInt(Integer::intValue).sum();
        }
    }

    private static final class Way {
        final int distance;
        final int by;

        Way(int distance, int by) {
            this.distance = distance;
            this.by = by;
        }
    }

    private static final class ScriptError extends RuntimeException {
        private static final long serialVersionUID = 1L;
        final int kind;
        final int offset;

        ScriptError(int kind, int offset) {
            this.kind = kind;
            this.offset = offset;
        }
    }

    /** Executes a text by regular expressions. */
    private static final class Parser {
        private static final Pattern TOKEN = Pattern.compile("[a-z]+|[0-9]+|;|[^ \n]", Pattern.DOTALL);
        final List<String> tokens = new ArrayList<>();
        final List<Integer> offsets = new ArrayList<>();
        int at = 0;
        Model net = new Model(0, 0);

        Parser(String text) {
            Matcher matcher = TOKEN.matcher(text);
            while (matcher.find()) {
                tokens.add(matcher.group());
                offsets.add(matcher.start());
            }
            tokens.add("");
            offsets.add(text.length());
        }

        ScriptError error(int kind) {
            return new ScriptError(kind, offsets.get(at));
        }

        void expect(String token) {
            if (!tokens.get(at).equals(token)) {
                throw error(1);
            }
            at++;
        }

        int number(int low, int high) {
            if (!tokens.get(at).matches("[0-9]{1,3}")) {
                throw error(1);
            }
            int number = Integer.parseInt(tokens.get(at));
            if (number < low || number > high) {
                throw error(2);
            }
            at++;
            return number;
        }

        int place() {
            return number(0, net.places() - 1);
        }

        int transition() {
            return number(0, net.transitions() - 1);
        }

        Model execute() {
            expect("net");
            int places = number(1, 8);
            net = new Model(places, number(1, 10));
            expect(";");
            while (!tokens.get(at).isEmpty()) {
                command();
                expect(";");
            }
            return net;
        }

        void command() {
            int p;
            int t;
            String word = tokens.get(at);
            if (!List.of("tokens", "capacity", "in", "out", "inhibit", "fire", "run").contains(word)) {
                throw error(1);
            }
            at++;
            switch (word) {
                case "tokens" -> {
                    p = place();
                    net.marking.set(p, number(0, net.capacities.get(p)));
                }
                case "capacity" -> {
                    p = place();
                    net.capacities.set(p, number(Math.max(1, net.marking.get(p)), 30));
                }
                case "in" -> {
                    p = place();
                    t = transition();
                    net.in[p][t] = number(0, 9);
                }
                case "out" -> {
                    t = transition();
                    p = place();
                    net.out[p][t] = number(0, 9);
                }
                case "inhibit" -> {
                    p = place();
                    t = transition();
                    net.inhibit[p][t] = number(0, 9);
                }
                case "fire" -> {
                    t = transition();
                    if (!net.enabled(net.marking, t)) {
                        at--;
                        throw error(3);
                    }
                    net.fire(t);
                }
                default -> net.run(number(1, 200));
            }
        }
    }

    /** The whole simulator, call by call. */
    private static final class Simulator {
        Model net = new Parser("net 4 4; capacity 3 2; tokens 0 3; tokens 2 1; in 0 0 1; out 0 1 1; in 1 1 1; in 2 1 1; out 1 3 1; "
            + "in 3 2 1; out 2 0 1; out 2 2 1; in 1 3 2; out 3 0 2; inhibit 3 3 1; fire 0; fire 0;").execute();
        Model snapshot = null;
        Deque<Model> history = new ArrayDeque<>();
        String input = "";
        String report = "";
        int errorKind = 0;
        int errorOffset = -1;

        void place(int p) {
            if (p < 0 || p >= net.places()) {
                throw new IndexOutOfBoundsException();
            }
        }

        void transition(int t) {
            if (t < 0 || t >= net.transitions()) {
                throw new IndexOutOfBoundsException();
            }
        }

        void range(int value, int low, int high) {
            if (value < low || value > high) {
                throw new IllegalArgumentException();
            }
        }

        void change() {
            history.addFirst(net.copy());
            if (history.size() > 10) {
                history.removeLast();
            }
        }

        Map<List<Integer>, Way> explore(boolean[] complete) {
            Map<List<Integer>, Way> found = new LinkedHashMap<>();
            found.put(net.marking, new Way(0, -1));
            complete[0] = true;
            for (int n = 0; n < found.size(); n++) {
                List<Integer> m = new ArrayList<>(found.keySet()).get(n);
                for (int t = 0; t < net.transitions(); t++) {
                    if (net.enabled(m, t) && !found.containsKey(net.after(m, t))) {
                        if (found.size() == 150) {
                            complete[0] = false;
                            return found;
                        }
                        found.put(net.after(m, t), new Way(found.get(m).distance + 1, t));
                    }
                }
            }
            return found;
        }

        Map<List<Integer>, Way> reached() {
            return explore(new boolean[1]);
        }

        List<Integer> reached(int number) {
            List<List<Integer>> all = new ArrayList<>(reached().keySet());
            if (number < 0 || number >= all.size()) {
                throw new NoSuchElementException();
            }
            return all.get(number);
        }

        int[] vector(int vector, int count) {
            if (vector < 0) {
                throw new IllegalArgumentException();
            }
            String text = new StringBuilder(Integer.toString(vector)).reverse().toString();
            int[] made = new int[count];
            for (int i = 0; i < text.length(); i++) {
                if (i < count) {
                    made[i] = text.charAt(i) - '0';
                } else if (text.charAt(i) != '0') {
                    throw new IllegalArgumentException();
                }
            }
            return made;
        }

        boolean isInvariant(int vector) {
            int[] weights = vector(vector, net.places());
            for (int t = 0; t < net.transitions(); t++) {
                int sum = 0;
                for (int p = 0; p < net.places(); p++) {
                    sum += weights[p] * (net.out[p][t] - net.in[p][t]);
                }
                if (sum != 0) {
                    return false;
                }
            }
            return true;
        }

        List<Integer> simple() {
            List<Integer> found = new ArrayList<>();
            for (int set = 1; set < Math.pow(2, net.places()); set++) {
                int vector = Integer.parseInt(Integer.toBinaryString(set));
                if (isInvariant(vector)) {
                    found.add(vector);
                }
            }
            return found;
        }

        int[] set(int count, java.util.function.IntPredicate holds) {
            int sum = 0;
            for (int i = 0; i < count; i++) {
                sum += holds.test(i) ? (int) Math.pow(2, i) : 0;
            }
            return new int[] {sum};
        }
    }

    /** A linear congruential sequence: the same runs each time. */
    private static final class Numbers {
        private long state;

        Numbers(long seed) {
            state = seed * 2862933555777941757L + 3037000493L;
        }

        int below(int bound) {
            state = state * 6364136223846793005L + 1442695040888963407L;
            return (int) ((state >>> 33) % bound);
        }

        int index(int count) {
            int kind = below(60);
            if (kind == 0) {
                return new int[] {-1, count, Integer.MIN_VALUE, Integer.MAX_VALUE, count + 1}[below(5)];
            }
            return below(count);
        }

        int value(int low, int high) {
            int kind = below(40);
            if (kind == 0) {
                return new int[] {low - 1, high + 1, Integer.MIN_VALUE, Integer.MAX_VALUE, low, high}[below(6)];
            }
            return low + below(high - low + 1);
        }
    }

    // What later calls of an object answer is free.
    private static final int MAX_CALLS = 512;

    private static int run = 0;
    private static int call = 0;
    private static int asked = 0;

    /** Compares one call of the model with the same call of the net. */
    private static void same(String what, Call model, Call net) {
        if (asked == MAX_CALLS) {
            return;
        }
        asked++;
        Object want = answerOf(model);
        Object got = answerOf(net);
        if (!want.equals(got)) {
            wrong++;
            if (wrong < 40) {
                System.out.println("run " + run + ", call " + call + ": " + what + " answered " + got + ", due is " + want);
            }
        }
    }

    private static String randomScript(Numbers r) {
        int places = 1 + r.below(8);
        int transitions = 1 + r.below(10);
        StringBuilder text = new StringBuilder("net " + places + " " + transitions + ";");
        int commands = 5 + r.below(35);
        int heavy = r.below(4);
        for (int i = 0; i < commands; i++) {
            String gap = r.below(10) == 0 ? " \n" : "";
            int p = r.below(60) == 0 ? r.below(11) : r.below(places);
            int t = r.below(60) == 0 ? r.below(11) : r.below(transitions);
            int weight = r.below(heavy == 0 ? 10 : 3);
            text.append(gap);
            switch (r.below(12)) {
                case 0, 1, 2 -> text.append("tokens " + p + " " + r.below(heavy == 1 ? 31 : 6));
                case 3 -> text.append("capacity " + p + " " + (6 + r.below(25)));
                case 4, 5, 6, 7 -> text.append("in " + p + " " + t + " " + weight);
                case 8, 9 -> text.append("out " + t + " " + p + " " + weight);
                case 10 -> text.append("inhibit " + p + " " + t + " " + r.below(10));
                default -> text.append(r.below(3) == 0 ? "fire " + t : "run " + (1 + r.below(9)));
            }
            text.append(gap).append(";");
        }
        if (text.length() > 500) {
            text.setLength(text.lastIndexOf(";", 499) + 1);
        }
        return r.below(3) == 0 ? spoilt(r, text) : text.toString();
    }

    private static String spoilt(Numbers r, StringBuilder text) {
        int times = 1 + r.below(2);
        for (int i = 0; i < times; i++) {
            int at = r.below(text.length());
            String sign = new String[] {" ", ";", "0", "9", "31", "a", "x", "\n", "\t", "A", "\u00ff", "{", "`", "/", ":", "", "\u0000", "1234"}[r.below(18)];
            if (r.below(2) == 0) {
                text.replace(at, at + 1, sign);
            } else {
                text.insert(at, sign);
            }
        }
        if (text.length() > 500 || r.below(4) == 0) {
            text.setLength(r.below(Math.min(500, text.length())));
        }
        return text.toString();
    }

    private static void append(Simulator m, PetriNet x, int[] v) {
        same("append", () -> {
            if (m.input.length() + 20 > 500) {
                return -2;
            }
            StringBuilder text = new StringBuilder(m.input);
            for (int value : v) {
                for (int shift = 24; shift >= 0; shift -= 8) {
                    text.append((char) (value >>> shift & 255));
                }
            }
            m.input = text.toString();
            return m.input.length();
        }, () -> x.append(v[0], v[1], v[2], v[3], v[4]));
    }

    private static void truncate(Simulator m, PetriNet x, int length) {
        same("truncateInput " + length, () -> {
            m.range(length, 0, m.input.length());
            m.input = m.input.substring(0, length);
            return length;
        }, () -> x.truncateInput(length));
    }

    private static void script(Simulator m, PetriNet x, String text) {
        truncate(m, x, 0);
        for (int i = 0; i < text.length(); i += 20) {
            append(m, x, new int[] {four(text, i), four(text, i + 4), four(text, i + 8), four(text, i + 12), four(text, i + 16)});
        }
        truncate(m, x, text.length());
        runScript(m, x);
    }

    private static void runScript(Simulator m, PetriNet x) {
        String text = m.input;
        same("runScript of " + text, () -> {
            m.input = "";
            m.errorKind = 0;
            m.errorOffset = -1;
            try {
                Model made = new Parser(text).execute();
                m.change();
                m.net = made;
                return made.sum();
            } catch (ScriptError e) {
                m.errorKind = e.kind;
                m.errorOffset = e.offset;
                return -1;
            }
        }, x::runScript);
        same("scriptErrorKind of " + text, () -> m.errorKind, x::scriptErrorKind);
        same("scriptErrorOffset of " + text, () -> m.errorOffset, x::scriptErrorOffset);
    }

    private static void change(Simulator m, PetriNet x, Numbers r) {
        int p = r.index(m.net.places());
        int t = r.index(m.net.transitions());
        int w = r.below(3) == 0 ? r.value(0, 9) : r.value(0, 2);
        switch (r.below(12)) {
            case 0 -> {
                int n = r.value(0, 12);
                same("setTokens", () -> {
                    m.place(p);
                    m.range(n, 0, m.net.capacities.get(p));
                    m.change();
                    return m.net.marking.set(p, n);
                }, () -> x.setTokens(p, n));
            }
            case 1 -> {
                int n = r.value(1, 30);
                same("setCapacity", () -> {
                    m.place(p);
                    m.range(n, 1, 30);
                    if (m.net.marking.get(p) > n) {
                        throw new IllegalStateException();
                    }
                    m.change();
                    return m.net.capacities.set(p, n);
                }, () -> x.setCapacity(p, n));
            }
            case 2, 3 -> same("setInput", () -> weight(m, p, t, w, 0), () -> x.setInput(p, t, w));
            case 4, 5 -> same("setOutput", () -> weight(m, p, t, w, 1), () -> x.setOutput(t, p, w));
            case 6 -> same("setInhibitor", () -> weight(m, p, t, w, 2), () -> x.setInhibitor(p, t, w));
            case 7, 8 -> same("fire", () -> {
                m.transition(t);
                if (!m.net.enabled(m.net.marking, t)) {
                    throw new IllegalStateException();
                }
                m.change();
                m.net.fire(t);
                return m.net.fired.get(t);
            }, () -> x.fire(t));
            case 9 -> {
                int n = r.below(2) == 0 ? r.value(1, 200) : r.value(1, 7);
                same("run", () -> {
                    m.range(n, 1, 200);
                    m.change();
                    return m.net.run(n);
                }, () -> x.run(n));
            }
            case 10 -> {
                int n = r.index(Math.max(1, m.reached().size()));
                same("moveToMarking", () -> {
                    List<Integer> there = m.reached(n);
                    int distance = m.reached().get(there).distance;
                    m.change();
                    m.net.marking = new ArrayList<>(there);
                    return distance;
                }, () -> x.moveToMarking(n));
            }
            default -> same("reverseNet", () -> {
                m.change();
                int[][] kept = m.net.in;
                m.net.in = m.net.out;
                m.net.out = kept;
                return Integer.bitCount(m.net.enabledSet(m.net.marking));
            }, x::reverseNet);
        }
    }

    private static int weight(Simulator m, int p, int t, int w, int which) {
        m.place(p);
        m.transition(t);
        m.range(w, 0, 9);
        m.change();
        int[][] rows = which == 0 ? m.net.in : which == 1 ? m.net.out : m.net.inhibit;
        int previous = rows[p][t];
        rows[p][t] = w;
        return previous;
    }

    private static void restore(Simulator m, PetriNet x, Numbers r) {
        switch (r.below(5)) {
            case 0, 1 -> same("undo", () -> {
                if (m.history.isEmpty()) {
                    return -1;
                }
                m.net = m.history.removeFirst();
                return m.history.size();
            }, x::undo);
            case 2 -> same("undoCount", () -> m.history.size(), x::undoCount);
            case 3 -> same("saveSnapshot", () -> {
                m.snapshot = m.net.copy();
                return m.net.sum();
            }, x::saveSnapshot);
            default -> {
                if (r.below(4) == 0) {
                    same("restoreSnapshot", () -> {
                        if (m.snapshot == null) {
                            throw new NoSuchElementException();
                        }
                        m.net = m.snapshot.copy();
                        m.history.clear();
                        return m.net.sum();
                    }, x::restoreSnapshot);
                }
            }
        }
    }

    private static void askOfTheNet(Simulator m, PetriNet x, Numbers r) {
        int p = r.index(m.net.places());
        int t = r.index(m.net.transitions());
        int u = r.index(m.net.transitions());
        List<Integer> now = m.net.marking;
        same("placeCount", () -> m.net.places(), x::placeCount);
        same("transitionCount", () -> m.net.transitions(), x::transitionCount);
        same("tokens", () -> {
            m.place(p);
            return now.get(p);
        }, () -> x.tokens(p));
        same("capacity", () -> {
            m.place(p);
            return m.net.capacities.get(p);
        }, () -> x.capacity(p));
        same("effect", () -> {
            m.transition(t);
            m.place(p);
            return m.net.out[p][t] - m.net.in[p][t];
        }, () -> x.effect(t, p));
        same("totalTokens", () -> m.net.sum(), x::totalTokens);
        same("inputPlaces", () -> {
            m.transition(t);
            return m.set(m.net.places(), i -> m.net.in[i][t] > 0)[0];
        }, () -> x.inputPlaces(t));
        same("outputPlaces", () -> {
            m.transition(t);
            return m.set(m.net.places(), i -> m.net.out[i][t] > 0)[0];
        }, () -> x.outputPlaces(t));
        same("consumers", () -> {
            m.place(p);
            return m.set(m.net.transitions(), i -> m.net.in[p][i] > 0)[0];
        }, () -> x.consumers(p));
        same("whyNotEnabled", () -> {
            m.transition(t);
            return m.net.obstacle(now, t)[0];
        }, () -> x.whyNotEnabled(t));
        same("blockingPlace", () -> {
            m.transition(t);
            return m.net.obstacle(now, t)[1];
        }, () -> x.blockingPlace(t));
        same("enabledTransitions", () -> m.net.enabledSet(now), x::enabledTransitions);
        same("isDead", () -> m.net.enabledSet(now) == 0, x::isDead);
        same("firings", () -> {
            m.transition(t);
            return m.net.fired.get(t);
        }, () -> x.firings(t));
        same("nextOfRun", () -> m.net.next(), x::nextOfRun);
        same("firesInRow", () -> {
            m.transition(t);
            int times = 0;
            List<Integer> there = now;
            while (times < 1000 && m.net.enabled(there, t)) {
                there = m.net.after(there, t);
                times++;
            }
            return times;
        }, () -> x.firesInRow(t));
        same("areInConflict", () -> {
            m.transition(t);
            m.transition(u);
            return m.net.enabled(now, t) && m.net.enabled(now, u)
                && !(m.net.enabled(m.net.after(now, t), u) && m.net.enabled(m.net.after(now, u), t));
        }, () -> x.areInConflict(t, u));
    }

    private static void askOfMarkings(Simulator m, PetriNet x, Numbers r) {
        boolean[] complete = new boolean[1];
        Map<List<Integer>, Way> ways = m.explore(complete);
        List<List<Integer>> all = new ArrayList<>(ways.keySet());
        int p = r.index(m.net.places());
        int t = r.index(m.net.transitions());
        int n = r.index(all.size());
        same("markingCount", all::size, x::markingCount);
        same("isComplete", () -> complete[0], x::isComplete);
        same("markingTokens", () -> {
            m.place(p);
            return m.reached(n).get(p);
        }, () -> x.markingTokens(n, p));
        same("markingDistance", () -> ways.get(m.reached(n)).distance, () -> x.markingDistance(n));
        same("markingTransition", () -> ways.get(m.reached(n)).by, () -> x.markingTransition(n));
        List<Integer> dead = new ArrayList<>();
        boolean home = false;
        for (int i = 0; i < all.size(); i++) {
            if (m.net.enabledSet(all.get(i)) == 0) {
                dead.add(i);
            }
            for (int k = 0; k < m.net.transitions(); k++) {
                home |= m.net.enabled(all.get(i), k) && m.net.after(all.get(i), k).equals(m.net.marking);
            }
        }
        final boolean isHome = home;
        same("firstDeadMarking", () -> dead.isEmpty() ? -1 : dead.get(0), x::firstDeadMarking);
        same("deadMarkings", dead::size, x::deadMarkings);
        same("bound", () -> {
            m.place(p);
            return all.stream().mapToInt(a -> a.get(p)).max().getAsInt();
        }, () -> x.bound(p));
        same("canFire", () -> {
            m.transition(t);
            return all.stream().anyMatch(a -> m.net.enabled(a, t));
        }, () -> x.canFire(t));
        same("returnsHome", () -> isHome, x::returnsHome);
        same("distanceToEmpty", () -> {
            m.place(p);
            return all.stream().filter(a -> a.get(p) == 0).mapToInt(a -> ways.get(a).distance).min().orElse(-1);
        }, () -> x.distanceToEmpty(p));
    }

    private static int randomVector(Numbers r, int count) {
        int vector = 0;
        for (int i = 0; i < count && i < 9; i++) {
            vector = vector * 10 + (r.below(2) == 0 ? r.below(2) : r.below(10));
        }
        switch (r.below(20)) {
            case 0:
                return -vector;
            case 1:
                return vector * 10;
            case 2:
                return Integer.MAX_VALUE - r.below(2) * 147483647;
            default:
                return vector;
        }
    }

    private static void askOfInvariants(Simulator m, PetriNet x, Numbers r) {
        List<Integer> simple = m.simple();
        int v = simple.isEmpty() || r.below(2) == 0 ? randomVector(r, m.net.places()) : simple.get(r.below(simple.size()));
        int w = randomVector(r, m.net.transitions());
        same("isPlaceInvariant " + v, () -> m.isInvariant(v), () -> x.isPlaceInvariant(v));
        same("isTransitionInvariant " + w, () -> {
            int[] times = m.vector(w, m.net.transitions());
            for (int p = 0; p < m.net.places(); p++) {
                int sum = 0;
                for (int t = 0; t < times.length; t++) {
                    sum += times[t] * m.net.out[p][t] - times[t] * m.net.in[p][t];
                }
                if (sum != 0) {
                    return false;
                }
            }
            return true;
        }, () -> x.isTransitionInvariant(w));
        same("weightedTokens " + v, () -> {
            int[] weights = m.vector(v, m.net.places());
            int sum = 0;
            for (int p = 0; p < weights.length; p++) {
                sum += weights[p] * m.net.marking.get(p);
            }
            return sum;
        }, () -> x.weightedTokens(v));
        same("simpleInvariants", simple::size, x::simpleInvariants);
        same("smallestInvariant", () -> simple.stream().mapToInt(Integer::intValue).min().orElse(-1), x::smallestInvariant);
        same("coveredPlaces", () -> m.set(m.net.places(),
            p -> simple.stream().anyMatch(s -> s / (int) Math.pow(10, p) % 10 == 1))[0], x::coveredPlaces);
        same("violations", () -> 0, x::violations);
    }

    private static void askOfTheRest(Simulator m, PetriNet x, Numbers r) {
        int p = r.index(m.net.places());
        int n = r.value(0, 200);
        same("tokensAfterRun", () -> {
            m.place(p);
            m.range(n, 0, 200);
            Model there = m.net.copy();
            there.run(n);
            return there.marking.get(p);
        }, () -> x.tokensAfterRun(p, n));
        same("runLength", () -> {
            int length = m.net.copy().run(201);
            return length == 201 ? -1 : length;
        }, x::runLength);
        same("load", () -> (double) m.net.sum() / (double) m.net.capacities.stream().mapToInt(Integer::intValue).sum(), x::load);
        same("enabledShare", () -> (float) Integer.bitCount(m.net.enabledSet(m.net.marking)) / (float) m.net.transitions(),
            x::enabledShare);
        if (r.below(2) == 0) {
            same("writeMarking", () -> {
                List<Integer> on = new ArrayList<>();
                for (int t = 0; t < m.net.transitions(); t++) {
                    if (m.net.enabled(m.net.marking, t)) {
                        on.add(t);
                    }
                }
                m.report = m.net.marking.toString().replaceAll("[\\[\\] ]", "") + " "
                    + (on.isEmpty() ? "-" : on.toString().replaceAll("[\\[\\] ]", ""));
                return m.report.length();
            }, x::writeMarking);
        }
        for (int i = -1; i < m.report.length() + 2; i++) {
            final int index = i;
            same("reportByte", () -> index >= 0 && index < m.report.length() ? (int) m.report.charAt(index) : -1,
                () -> x.reportByte(index));
        }
        same("inputLength", () -> m.input.length(), x::inputLength);
        same("scriptErrorKind", () -> m.errorKind, x::scriptErrorKind);
        same("scriptErrorOffset", () -> m.errorOffset, x::scriptErrorOffset);
    }

    private static void mixedRun(Numbers r) {
        Simulator m = new Simulator();
        PetriNet x = new PetriNet();
        asked = 0;
        if (r.below(4) != 0) {
            script(m, x, randomScript(r));
        }
        for (call = 0; call < 60; call++) {
            switch (r.below(16)) {
                case 0 -> script(m, x, randomScript(r));
                case 1 -> {
                    int[] v = new int[5];
                    Arrays.setAll(v, i -> r.below(2) == 0 ? 0x3b20300a : r.below(Integer.MAX_VALUE) * 2);
                    append(m, x, v);
                    truncate(m, x, r.index(m.input.length() + 1));
                    if (r.below(3) == 0) {
                        runScript(m, x);
                    }
                }
                case 2, 3 -> restore(m, x, r);
                case 4 -> askOfTheNet(m, x, r);
                case 5, 6 -> askOfMarkings(m, x, r);
                case 7 -> askOfInvariants(m, x, r);
                case 8 -> askOfTheRest(m, x, r);
                default -> change(m, x, r);
            }
        }
        askOfTheNet(m, x, r);
        askOfMarkings(m, x, r);
        askOfInvariants(m, x, r);
        askOfTheRest(m, x, r);
    }

    public static void main(String[] args) {
        int runs = args.length > 0 ? Integer.parseInt(args[0]) : 400;
        for (run = 1; run <= runs; run++) {
            mixedRun(new Numbers(run));
        }
        finish();
    }
}
