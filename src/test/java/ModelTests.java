import java.math.BigInteger;
import java.util.ArrayDeque;
import java.util.ArrayList;
import java.util.Arrays;
import java.util.Comparator;
import java.util.Deque;
import java.util.HashSet;
import java.util.LinkedHashMap;
import java.util.List;
import java.util.Map;
import java.util.Random;
import java.util.Set;
import java.util.regex.Matcher;
import java.util.regex.Pattern;

/** Drawn runs of calls: every answer is held against a model that is slow, plain and written in another way. */
public final class ModelTests {
    private static final int BAD = -1, NO = -2, FULL = -3, NONE = -4;
    private static final int RUNS = 500;
    private static final int CALLS = 512;
    private static final String FIRST =
        "y4;d0,0,7;d1,0,3;d0,1,2;d0,0,9;d1,3,5;d1,2,0;d0,0,6;v0,4;v1,3;v3,6;v5,2;t40;";

    private static int wrong = 0;

    private ModelTests() {
    }

    public static void main(String[] args) {
        long calls = 0;
        for (int run = 0; run < RUNS && wrong < 20; run++) {
            calls += new Run(run).go();
        }
        System.out.println(calls + " calls in " + RUNS + " runs, " + wrong + " wrong");
        if (wrong != 0) {
            System.exit(1);
        }
    }

    /** Who is dead, who lies where, who visits: with what the document asks of them. */
    private static final class State {
        int plots = 6;
        int truce = 60;
        final List<int[]> dead = new ArrayList<>();
        final List<int[]> visitors = new ArrayList<>();
        // By yard: plot to name; "7" is one of the dead, "d7" his double.
        final List<Map<Integer, String>> yards = new ArrayList<>();

        State() {
            yards.add(new LinkedHashMap<>());
            yards.add(new LinkedHashMap<>());
        }

        State copy() {
            State s = new State();
            s.plots = plots;
            s.truce = truce;
            for (int[] d : dead) {
                s.dead.add(d.clone());
            }
            for (int[] v : visitors) {
                s.visitors.add(v.clone());
            }
            s.yards.get(0).putAll(yards.get(0));
            s.yards.get(1).putAll(yards.get(1));
            return s;
        }

        State byRight() {
            State s = new State();
            s.plots = plots;
            for (int[] d : dead) {
                s.bury(d[0], d[1], d[2]);
            }
            return s;
        }

        int plotFor(int yard, int kind, int f) {
            List<Integer> ways = new ArrayList<>();
            int wanted = (int) Math.floor((9 - f) * plots / 10.0);
            for (int n = 0; n < plots; n++) {
                ways.add(kind == 2 ? n : Math.floorMod(kind == 1 ? wanted - n : wanted + n, plots));
            }
            ways.removeAll(yards.get(yard).keySet());
            return ways.isEmpty() ? NONE : ways.get(0);
        }

        int bury(int village, int kind, int f) {
            int number = dead.size();
            dead.add(new int[] {village, kind, f});
            int plot = plotFor(1 - village, kind, f);
            if (plot == NONE) {
                return NONE;
            }
            yards.get(1 - village).put(plot, "" + number);
            int twin = kind == 3 ? plotFor(village, kind, f) : NONE;
            if (twin != NONE) {
                yards.get(village).put(twin, "d" + number);
            }
            return plot;
        }

        void change(int yard, int p, int q) {
            if (p == q) {
                return;
            }
            Map<Integer, String> y = yards.get(yard);
            String a = y.remove(p);
            String b = y.remove(q);
            if (a != null) {
                y.put(q, a);
            }
            if (b != null) {
                y.put(p, b);
            }
        }

        int whereIs(String name) {
            for (Map<Integer, String> y : yards) {
                for (Map.Entry<Integer, String> e : y.entrySet()) {
                    if (e.getValue().equals(name)) {
                        return e.getKey();
                    }
                }
            }
            return NONE;
        }

        int whoIsAt(int yard, int p) {
            String name = yards.get(yard).get(p);
            if (name == null) {
                return NONE;
            }
            return name.startsWith("d") ? 20 + Integer.parseInt(name.substring(1)) : Integer.parseInt(name);
        }

        int owed(int village) {
            int n = 0;
            for (int i = 0; i < dead.size(); i++) {
                n += dead.get(i)[0] == village && whereIs("" + i) == NONE ? 1 : 0;
            }
            return n;
        }

        Set<Integer> moved() {
            Set<Integer> set = new HashSet<>();
            State right = byRight();
            for (int i = 0; i < dead.size(); i++) {
                if (whereIs("" + i) != right.whereIs("" + i)) {
                    set.add(i);
                }
            }
            return set;
        }

        String drawn(int yard) {
            StringBuilder b = new StringBuilder();
            for (int p = 0; p < plots; p++) {
                int who = whoIsAt(yard, p);
                b.append(who == NONE ? '.' : (char) ('A' + who));
            }
            return b.toString();
        }

        // All arrangements, nearest first, until the one BY RIGHT comes.
        int mend(int yard) {
            String goal = byRight().drawn(yard);
            List<String> ring = List.of(drawn(yard));
            Set<String> known = new HashSet<>(ring);
            for (int steps = 0; !ring.isEmpty(); steps++) {
                if (ring.contains(goal)) {
                    return steps;
                }
                List<String> further = new ArrayList<>();
                for (String s : ring) {
                    for (int p = 0; p < plots; p++) {
                        for (int q = p + 1; q < plots; q++) {
                            char[] c = s.toCharArray();
                            char held = c[p];
                            c[p] = c[q];
                            c[q] = held;
                            String t = new String(c);
                            if (known.add(t)) {
                                further.add(t);
                            }
                        }
                    }
                }
                ring = further;
            }
            return NONE;
        }

        boolean goes(int v) {
            return whereIs("" + visitors.get(v)[0]) != NONE;
        }

        List<Integer> goers() {
            List<Integer> list = new ArrayList<>();
            for (int v = 0; v < visitors.size(); v++) {
                if (goes(v)) {
                    list.add(v);
                }
            }
            return list;
        }

        // Crossings as the document tells them, each {visitor, 1 over or 0 back}, then timed one by one.
        int takes(List<Integer> order) {
            List<int[]> crossings = new ArrayList<>();
            List<Integer> yonder = new ArrayList<>();
            for (int v : order) {
                for (int other : new ArrayList<>(yonder)) {
                    if (dead.get(visitors.get(other)[0])[0] == dead.get(visitors.get(v)[0])[0]) {
                        crossings.add(new int[] {other, 0});
                        yonder.remove((Integer) other);
                    }
                }
                crossings.add(new int[] {v, 1});
                for (int other : yonder) {
                    crossings.add(new int[] {other, 0});
                }
                yonder.clear();
                yonder.add(v);
            }
            for (int v : yonder) {
                crossings.add(new int[] {v, 0});
            }
            int clock = 0;
            int[] came = new int[6];
            for (int[] c : crossings) {
                int[] v = visitors.get(c[0]);
                if (c[1] == 0) {
                    while (clock < came[c[0]] + whereIs("" + v[0]) + 1) {
                        clock++;
                    }
                }
                clock += v[1];
                came[c[0]] = clock;
            }
            return clock;
        }

        // The orders come from the lowest on, so the first of the soonest is found first.
        List<Integer> soonest(List<Integer> who) {
            List<List<Integer>> orders = new ArrayList<>();
            arrange(new ArrayList<>(), who, orders);
            List<Integer> best = orders.get(0);
            for (List<Integer> o : orders) {
                if (takes(o) < takes(best)) {
                    best = o;
                }
            }
            return best;
        }

        private static void arrange(List<Integer> done, List<Integer> left, List<List<Integer>> into) {
            if (left.isEmpty()) {
                into.add(new ArrayList<>(done));
            }
            for (Integer v : left) {
                List<Integer> rest = new ArrayList<>(left);
                rest.remove(v);
                done.add(v);
                arrange(done, rest, into);
                done.remove(done.size() - 1);
            }
        }

        int leave() {
            List<Integer> sets = new ArrayList<>();
            for (int set = 0; set < 1 << visitors.size(); set++) {
                sets.add(set);
            }
            sets.sort(Comparator.comparing((Integer s) -> Integer.bitCount(s)).thenComparing(s -> s));
            for (int set : sets) {
                List<Integer> who = goers();
                who.removeIf(v -> (set >> v & 1) == 1);
                if (takes(soonest(who)) <= truce) {
                    return set;
                }
            }
            return 0;
        }

        int names(int winters) {
            List<Deque<Integer>> stones = List.of(new ArrayDeque<>(), new ArrayDeque<>());
            for (int i = 0; i < dead.size(); i++) {
                if (whereIs("" + i) != NONE) {
                    stones.get(1 - dead.get(i)[0]).add(i);
                }
            }
            for (int w = 0; w < winters; w++) {
                if (stones.get(w % 2).pollFirst() == null) {
                    stones.get(1 - w % 2).pollFirst();
                }
            }
            int bits = 0;
            for (Deque<Integer> s : stones) {
                for (int i : s) {
                    bits += 1 << i;
                }
            }
            return bits;
        }

        State after(int z, int winters) {
            State s = copy();
            for (int w = 0; w < winters; w++) {
                BigInteger x = BigInteger.valueOf(7919L * z + 6151L * w + 1);
                int draw = x.pow(2).mod(BigInteger.valueOf(65521)).intValue() / 2;
                if (s.dead.size() < 12) {
                    s.bury(draw % 2, (draw / 2) % 4, (draw / 8) % 10);
                }
                s.change((draw / 64) % 2, (draw / 16) % plots, (draw / 32) % plots);
            }
            return s;
        }
    }

    /** The calls of the document's face, answered from the states above. */
    private static final class Model {
        private static final Pattern ITEM =
            Pattern.compile("y(\\d\\d?);|d(\\d\\d?),(\\d\\d?),(\\d\\d?);|v(\\d\\d?),(\\d\\d?);|t(\\d\\d?);");
        String text = "";
        State s;
        final Deque<State> past = new ArrayDeque<>();
        final Deque<State> kept = new ArrayDeque<>();
        final List<int[]> seen = new ArrayList<>();

        Model() {
            s = new State();
            tell(FIRST, s);
        }

        private static int tell(String text, State into) {
            int at = 0;
            boolean others = false;
            while (at < text.length()) {
                Matcher m = ITEM.matcher(text).region(at, text.length());
                if (!m.lookingAt()) {
                    return at;
                }
                boolean so;
                if (m.group(1) != null) {
                    into.plots = Integer.parseInt(m.group(1));
                    so = !others && among(into.plots, 2, 8);
                } else if (m.group(2) != null) {
                    int v = Integer.parseInt(m.group(2));
                    int k = Integer.parseInt(m.group(3));
                    int f = Integer.parseInt(m.group(4));
                    so = v < 2 && k < 4 && f < 10 && into.dead.size() < 12;
                    if (so) {
                        into.bury(v, k, f);
                    }
                } else if (m.group(5) != null) {
                    int i = Integer.parseInt(m.group(5));
                    int c = Integer.parseInt(m.group(6));
                    so = i < into.dead.size() && among(c, 1, 20) && into.visitors.size() < 6;
                    into.visitors.add(new int[] {i, c});
                } else {
                    into.truce = Integer.parseInt(m.group(7));
                    so = into.truce > 0;
                }
                if (!so) {
                    return at;
                }
                others |= m.group(1) == null;
                at = m.end();
            }
            return NONE;
        }

        private static boolean among(int x, int least, int most) {
            return least <= x && x <= most;
        }

        private boolean isDead(int i) {
            return among(i, 0, s.dead.size() - 1);
        }

        private boolean isPlot(int p) {
            return among(p, 0, s.plots - 1);
        }

        private void act() {
            past.addLast(s.copy());
            if (past.size() > 8) {
                past.removeFirst();
            }
        }

        private static int bits(Iterable<Integer> set) {
            int bits = 0;
            for (int i : set) {
                bits |= 1 << i;
            }
            return bits;
        }

        int answer(String call, int a, int b, int c) {
            switch (call) {
                case "write":
                    if (!among(a, 32, 126)) {
                        return BAD;
                    }
                    if (text.length() == 200) {
                        return FULL;
                    }
                    text += (char) a;
                    return text.length();
                case "wipe": {
                    int n = text.length();
                    text = "";
                    return n;
                }
                case "fault": return tell(text, new State());
                case "lay": {
                    State told = new State();
                    if (tell(text, told) != NONE || told.dead.isEmpty()) {
                        return NO;
                    }
                    s = told;
                    seen.clear();
                    past.clear();
                    kept.clear();
                    return s.dead.size();
                }
                case "dead":
                    if (!isDead(a) || !among(b, 0, 4)) {
                        return BAD;
                    }
                    return b < 3 ? s.dead.get(a)[b] : s.whereIs(b == 3 ? "" + a : "d" + a);
                case "plot": return among(a, 0, 1) && isPlot(b) ? s.whoIsAt(a, b) : BAD;
                case "visitor":
                    return among(a, 0, s.visitors.size() - 1) && among(b, 0, 1) ? s.visitors.get(a)[b] : BAD;
                default: return answerActs(call, a, b, c);
            }
        }

        private int answerActs(String call, int a, int b, int c) {
            switch (call) {
                case "bury":
                    if (!among(a, 0, 1) || !among(b, 0, 3) || !among(c, 0, 9)) {
                        return BAD;
                    }
                    if (s.dead.size() == 12) {
                        return FULL;
                    }
                    act();
                    return s.bury(a, b, c);
                case "change":
                    if (!among(a, 0, 1) || !isPlot(b) || !isPlot(c) || b == c) {
                        return BAD;
                    }
                    act();
                    s.change(a, b, c);
                    return s.whoIsAt(a, b);
                case "forgive": {
                    if (!isDead(a) || !among(b, 0, 9)) {
                        return BAD;
                    }
                    act();
                    int before = s.dead.get(a)[2];
                    s.dead.get(a)[2] = b;
                    return before;
                }
                case "visit":
                    if (!isDead(a) || !among(b, 1, 20)) {
                        return BAD;
                    }
                    if (s.visitors.size() == 6) {
                        return FULL;
                    }
                    act();
                    s.visitors.add(new int[] {a, b});
                    return s.visitors.size();
                case "undo":
                    if (past.isEmpty()) {
                        return NO;
                    }
                    s = past.removeLast();
                    return past.size();
                default: return answerByRight(call, a);
            }
        }

        private int answerByRight(String call, int a) {
            switch (call) {
                case "right": return isDead(a) ? s.byRight().whereIs("" + a) : BAD;
                case "moved": return bits(s.moved());
                case "mend": return among(a, 0, 1) ? s.mend(a) : BAD;
                case "grudge": {
                    State right = s.byRight();
                    int sum = 0;
                    for (int i = 0; i < s.dead.size(); i++) {
                        int here = s.whereIs("" + i);
                        int due = right.whereIs("" + i);
                        if (here != NONE && due != NONE) {
                            sum += Math.max(0, (s.plots - due) - (s.plots - here));
                        }
                    }
                    return sum;
                }
                case "takes": {
                    List<Integer> order = s.goers();
                    if (a == 1) {
                        order.sort(Comparator.reverseOrder());
                    }
                    return among(a, 0, 1) ? s.takes(order) : BAD;
                }
                case "tour": {
                    List<Integer> best = s.soonest(s.goers());
                    if (a < -1) {
                        return BAD;
                    }
                    if (best.isEmpty() || a >= best.size()) {
                        return NONE;
                    }
                    return a == -1 ? s.takes(best) : best.get(a);
                }
                case "enough": return s.takes(s.soonest(s.goers())) <= s.truce ? 1 : 0;
                case "leave": return s.leave();
                default: return NO;
            }
        }

        int answerRest(String call, int a, int b, int c) {
            switch (call) {
                case "seen":
                    if (!isDead(a) || !isPlot(b)) {
                        return BAD;
                    }
                    if (seen.size() == 8) {
                        return FULL;
                    }
                    seen.add(new int[] {a, b});
                    return seen.size();
                case "forget": {
                    int n = seen.size();
                    seen.clear();
                    return n;
                }
                case "was": return isDead(a) ? was(a) : BAD;
                case "owed": return among(a, 0, 1) ? s.owed(a) : BAD;
                case "balance": {
                    int sum = 200;
                    for (int i = 0; i < s.dead.size(); i++) {
                        int sign = s.dead.get(i)[0] == 0 ? 1 : -1;
                        sum += s.whereIs("" + i) == NONE ? 0 : sign * s.dead.get(i)[2];
                    }
                    return sum;
                }
                case "names": return among(a, 0, 20) ? s.names(a) : BAD;
                case "next":
                    return among(a, 0, 1) && among(b, 0, 3) && among(c, 0, 9) ? s.copy().bury(a, b, c) : BAD;
                case "year": {
                    if (!among(a, 0, 9999) || !among(b, 1, 30) || !among(c, 0, 1)) {
                        return BAD;
                    }
                    State then = s.after(a, b);
                    return c == 0 ? then.owed(0) + then.owed(1) : then.moved().size();
                }
                case "keep":
                    if (kept.size() == 2) {
                        return FULL;
                    }
                    kept.addLast(s.copy());
                    return kept.size();
                case "back":
                    if (kept.isEmpty()) {
                        return NO;
                    }
                    s = kept.removeLast();
                    past.clear();
                    return kept.size();
                default: return counted(a);
            }
        }

        private int was(int i) {
            int bits = 0;
            for (int f = 0; f < 10; f++) {
                State t = s.copy();
                t.dead.get(i)[2] = f;
                State right = t.byRight();
                boolean so = true;
                for (int[] look : seen) {
                    so &= right.whereIs("" + look[0]) == look[1];
                }
                bits |= so ? 1 << f : 0;
            }
            return bits;
        }

        private int counted(int what) {
            int twins = 0;
            for (int i = 0; i < s.dead.size(); i++) {
                twins += s.whereIs("d" + i) == NONE ? 0 : 1;
            }
            int[] counts = {s.dead.size(), s.visitors.size(), s.plots, s.truce, twins, seen.size(), past.size(),
                kept.size(), text.length()};
            return among(what, 0, counts.length - 1) ? counts[what] : BAD;
        }
    }

    /** Draws calls, asks both, and tells where they differ. */
    private static final class Run {
        // Those that are slow in the model, or that end what was built up, come seldom.
        private static final String[] CALL_NAMES = {"wipe", "fault", "lay", "dead", "dead", "plot", "plot", "visitor",
            "bury", "bury", "change", "change", "change", "forgive", "forgive", "visit", "undo", "right", "right",
            "moved", "moved", "grudge", "grudge", "takes", "takes", "tour", "seen", "seen", "was", "was", "owed",
            "balance", "names", "names", "next", "next", "year", "keep", "back", "count", "count", "count"};
        private static final int[] ODD = {-1, Integer.MIN_VALUE, Integer.MAX_VALUE, -2, 31, 100, 10000};

        private final int number;
        private final Random random;
        private final GravesExchanged x = new GravesExchanged();
        private final Model model = new Model();
        private int calls = 0;

        Run(int number) {
            this.number = number;
            random = new Random(number);
        }

        int go() {
            int texts = random.nextInt(3);
            for (int t = 0; t < texts; t++) {
                writeText();
                some(80);
            }
            some(CALLS);
            return calls;
        }

        private void some(int n) {
            for (int k = 0; k < n && calls < CALLS; k++) {
                if (k % 50 == 49) {
                    ask(random.nextBoolean() ? "leave" : "enough", 0, 0, 0);
                    ask("mend", random.nextInt(2), 0, 0);
                    ask("forget", 0, 0, 0);
                }
                askOne(CALL_NAMES[random.nextInt(CALL_NAMES.length)]);
            }
        }

        private void writeText() {
            String text = drawText();
            for (int i = 0; i < text.length(); i++) {
                ask("write", text.charAt(i), 0, 0);
            }
            ask("fault", 0, 0, 0);
            ask("lay", 0, 0, 0);
            ask("wipe", 0, 0, 0);
        }

        private String drawText() {
            StringBuilder b = new StringBuilder();
            int slip = random.nextInt(4) == 0 ? 12 : 1000;
            int ys = random.nextInt(3);
            for (int n = 0; n < ys; n++) {
                b.append("y").append(within(2, 8, slip)).append(";");
            }
            int dead = random.nextInt(random.nextInt(8) == 0 ? 15 : 13);
            int visitors = 0;
            for (int n = 0; n < dead; n++) {
                b.append("d").append(within(0, 1, slip)).append(",").append(within(0, 3, slip)).append(",");
                b.append(within(0, 9, slip)).append(";");
                while (visitors < 7 && random.nextInt(3) == 0) {
                    b.append("v").append(within(0, n, slip)).append(",").append(within(1, 20, slip)).append(";");
                    visitors++;
                }
                if (random.nextInt(12) == 0) {
                    b.append("t").append(within(1, 99, slip)).append(";");
                }
            }
            for (int n = random.nextInt(slip); n < 3; n++) {
                int at = random.nextInt(b.length() + 1);
                b.insert(at, "ydvt0123456789,,;; x".charAt(random.nextInt(20)));
            }
            return b.toString();
        }

        private String within(int least, int most, int slip) {
            int value = random.nextInt(slip) == 0 ? random.nextInt(100) : least + random.nextInt(most - least + 1);
            return (value < 10 && random.nextInt(10) == 0 ? "0" : "") + value;
        }

        private int upTo(int most) {
            return random.nextInt(25) == 0 ? ODD[random.nextInt(ODD.length)] : random.nextInt(most + 1);
        }

        private void askOne(String call) {
            switch (call) {
                case "dead": ask(call, upTo(12), upTo(5), 0); break;
                case "plot": ask(call, upTo(2), upTo(8), 0); break;
                case "visitor": ask(call, upTo(6), upTo(2), 0); break;
                case "bury": ask(call, upTo(1), upTo(3), upTo(9)); break;
                case "change": ask(call, upTo(1), upTo(model.s.plots), upTo(model.s.plots)); break;
                case "forgive": ask(call, upTo(12), upTo(10), 0); break;
                case "visit": ask(call, upTo(12), upTo(21), 0); break;
                case "right": ask(call, upTo(12), 0, 0); break;
                case "takes": ask(call, upTo(2), 0, 0); break;
                case "tour": ask(call, upTo(8) - 1, 0, 0); break;
                case "seen": askSeen(); break;
                case "was": ask(call, upTo(12), 0, 0); break;
                case "owed": ask(call, upTo(2), 0, 0); break;
                case "names": ask(call, upTo(21), 0, 0); break;
                case "next": ask(call, upTo(1), upTo(3), upTo(9)); break;
                case "year": ask(call, upTo(9999), upTo(30), upTo(1)); break;
                case "count": ask(call, upTo(9), 0, 0); break;
                default: ask(call, 0, 0, 0);
            }
        }

        // Mostly what is so by right, else nothing would be left to have been forgiven.
        private void askSeen() {
            int i = upTo(12);
            int p = model.isDead(i) && random.nextInt(6) != 0 ? model.s.byRight().whereIs("" + i) : upTo(8);
            ask("seen", i, p, 0);
        }

        private void ask(String call, int a, int b, int c) {
            if (calls >= CALLS) {
                return;
            }
            calls++;
            int got = call(call, a, b, c);
            boolean isRest = Arrays.asList("seen", "forget", "was", "owed", "balance", "names", "next", "year",
                "keep", "back", "count").contains(call);
            int want = isRest ? model.answerRest(call, a, b, c) : model.answer(call, a, b, c);
            if (got != want) {
                wrong++;
                System.out.println("run " + number + ", call " + calls + ": " + call + "(" + a + ", " + b + ", " + c
                    + ") answered " + got + ", due is " + want);
            }
        }

        private int call(String call, int a, int b, int c) {
            switch (call) {
                case "write": return x.write(a);
                case "wipe": return x.wipe();
                case "fault": return x.fault();
                case "lay": return x.lay();
                case "dead": return x.dead(a, b);
                case "plot": return x.plot(a, b);
                case "visitor": return x.visitor(a, b);
                case "bury": return x.bury(a, b, c);
                case "change": return x.change(a, b, c);
                case "forgive": return x.forgive(a, b);
                case "visit": return x.visit(a, b);
                case "undo": return x.undo();
                case "right": return x.right(a);
                case "moved": return x.moved();
                case "mend": return x.mend(a);
                case "grudge": return x.grudge();
                case "takes": return x.takes(a);
                case "tour": return x.tour(a);
                case "enough": return x.enough();
                case "leave": return x.leave();
                case "seen": return x.seen(a, b);
                case "forget": return x.forget();
                case "was": return x.was(a);
                case "owed": return x.owed(a);
                case "balance": return x.balance();
                case "names": return x.names(a);
                case "next": return x.next(a, b, c);
                case "year": return x.year(a, b, c);
                case "keep": return x.keep();
                case "back": return x.back();
                default: return x.count(a);
            }
        }
    }
}
