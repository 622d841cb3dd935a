import java.util.ArrayDeque;
import java.util.ArrayList;
import java.util.Arrays;
import java.util.Deque;
import java.util.HashMap;
import java.util.LinkedHashMap;
import java.util.List;
import java.util.Map;
import java.util.Set;
import java.util.TreeSet;

/**
 * The document once more, by other means than FuseTreaty's: every way that there is, every set, trees of law, lists of
 * faults. It is slow, and what the two answer is compared by ModelTest.
 */
final class Model {
    static final Set<String> WORDS = Set.of("flat", "wire", "use", "goes", "quarrel", "costs", "pays", "surge", "coins",
            "seed", "if", "then", "else", "load", "rating", "age", "hour", "day", "amps", "temper", "dark", "which");
    static final Set<String> VARS = Set.of("load", "rating", "age", "hour", "day", "amps", "temper", "dark", "which");

    record Token(String kind, String text, int place) { }

    record Fault(int place, int number) implements Comparable<Fault> {
        public int compareTo(Fault o) {
            return place != o.place ? Integer.compare(place, o.place) : Integer.compare(number, o.number);
        }
    }

    static final class DividedByZero extends RuntimeException {
        private static final long serialVersionUID = 1L;
    }

    record Wire(int a, int b, int rating) { }

    record Use(int flat, int amps, int from, int till) { }

    /** A law as the tokens behind its '='. */
    record Law(List<Token> body) { }

    static final class Plan {
        List<String> names = new ArrayList<>();
        List<Integer> tempers = new ArrayList<>();
        List<Wire> wires = new ArrayList<>();
        List<Use> uses = new ArrayList<>();
        Map<String, Law> laws = new HashMap<>();
        int surgeShare = 0;
        int surgeAmps = 0;
        int coins = 100;
        int seed = 0;

        Plan() {
            laws.put("goes", new Law(lex("load - rating ;")));
            laws.put("quarrel", new Law(lex("0 ;")));
            laws.put("costs", new Law(lex("rating ;")));
            laws.put("pays", new Law(lex("amps ;")));
        }
    }

    static final class Now implements Cloneable {
        int hour;
        int coins;
        int quarrels;
        boolean[] gone;
        boolean[] pinned;
        boolean[] agreed;
        int[] rating;
        int[] age;
        int[] dark;

        Now copy() {
            Now n = new Now();
            n.hour = hour;
            n.coins = coins;
            n.quarrels = quarrels;
            n.gone = gone.clone();
            n.pinned = pinned.clone();
            n.agreed = agreed.clone();
            n.rating = rating.clone();
            n.age = age.clone();
            n.dark = dark.clone();
            return n;
        }
    }

    record Fact(int flat, boolean lit) { }

    private Plan plan = new Plan();
    private Now now = fresh(plan);
    private StringBuilder tape = new StringBuilder();
    private int place = -1;
    private final Deque<Now> past = new ArrayDeque<>();
    private final Now[] slots = new Now[3];
    private final List<Fact> facts = new ArrayList<>();

    static Now fresh(Plan p) {
        Now n = new Now();
        n.coins = p.coins;
        n.gone = new boolean[p.wires.size()];
        n.pinned = new boolean[p.wires.size()];
        n.agreed = new boolean[p.uses.size()];
        Arrays.fill(n.agreed, true);
        n.rating = p.wires.stream().mapToInt(Wire::rating).toArray();
        n.age = new int[p.wires.size()];
        n.dark = new int[p.names.size()];
        return n;
    }

    // ---- reading

    static List<Token> lex(String text) {
        List<Token> out = new ArrayList<>();
        int i = 0;
        while (i < text.length()) {
            char c = text.charAt(i);
            if (c == 9 || c == 10 || c == 13 || c == 32) {
                i++;
                continue;
            }
            int j = i + 1;
            String kind;
            if (c >= 'a' && c <= 'z') {
                while (j < text.length() && text.charAt(j) >= 'a' && text.charAt(j) <= 'z') j++;
                String word = text.substring(i, j);
                kind = j - i > 8 ? "bad" : WORDS.contains(word) ? word : "NAME";
            } else if (c >= '0' && c <= '9') {
                while (j < text.length() && text.charAt(j) >= '0' && text.charAt(j) <= '9') j++;
                kind = j - i > 4 ? "bad" : "INT";
            } else {
                kind = ";=+-*/<()".indexOf(c) >= 0 ? String.valueOf(c) : "bad";
            }
            out.add(new Token(kind, text.substring(i, j), i));
            i = j;
        }
        out.add(new Token("end", "", text.length()));
        return out;
    }

    /** A stack of what is still to come: grammar faults and faults of room, all up to the first one of syntax. */
    static List<Fault> shapeFaults(List<Token> tokens) {
        List<Fault> faults = new ArrayList<>();
        Deque<String> todo = new ArrayDeque<>();
        todo.push("text");
        int flats = 0;
        int wires = 0;
        int uses = 0;
        int ifs = 0;
        int open = 0;
        int i = 0;
        while (!todo.isEmpty()) {
            Token t = tokens.get(i);
            String top = todo.pop();
            String k = t.kind();
            String[] into = null;
            switch (top) {
                case "text" -> into = k.equals("end") ? new String[] {"end"} : new String[] {"tell", "text"};
                case "tell" -> into = switch (k) {
                    case "flat" -> new String[] {"flat", "NAME", "INT", ";"};
                    case "wire" -> new String[] {"wire", "NAME", "NAME", "INT", ";"};
                    case "use" -> new String[] {"use", "NAME", "NAME", "INT", "INT", "INT", ";"};
                    case "goes", "quarrel", "costs", "pays" -> new String[] {k, "=", "law", ";"};
                    case "surge" -> new String[] {"surge", "INT", "INT", ";"};
                    case "coins", "seed" -> new String[] {k, "INT", ";"};
                    default -> null;
                };
                case "law" -> into = k.equals("if")
                        ? new String[] {"if", "E", "<", "E", "then", "E", "else", "law"} : new String[] {"E"};
                case "E" -> into = new String[] {"P", "E'"};
                case "E'" -> into = k.equals("+") || k.equals("-") ? new String[] {k, "P", "E'"} : new String[0];
                case "P" -> into = new String[] {"U", "P'"};
                case "P'" -> into = k.equals("*") || k.equals("/") ? new String[] {k, "U", "P'"} : new String[0];
                case "U" -> into = k.equals("INT") || VARS.contains(k) ? new String[] {k}
                        : k.equals("(") ? new String[] {"(", "E", ")"} : null;
                default -> {
                    if (!top.equals(k)) {
                        faults.add(new Fault(t.place(), 1));
                        return faults;
                    }
                    if (k.equals("end")) {
                        return faults;
                    }
                    if (i == 400) faults.add(new Fault(t.place(), 2));
                    if (k.equals("flat") && ++flats > 7) faults.add(new Fault(t.place(), 2));
                    if (k.equals("wire") && ++wires > 10) faults.add(new Fault(t.place(), 2));
                    if (k.equals("use") && ++uses > 8) faults.add(new Fault(t.place(), 2));
                    if (k.equals("=")) ifs = 0;
                    if (k.equals("if") && ++ifs > 4) faults.add(new Fault(t.place(), 2));
                    if (k.equals("(") && ++open > 6) faults.add(new Fault(t.place(), 2));
                    if (k.equals(")")) open--;
                    i++;
                    continue;
                }
            }
            if (into == null) {
                faults.add(new Fault(t.place(), 1));
                return faults;
            }
            for (int j = into.length - 1; j >= 0; j--) todo.push(into[j]);
        }
        return faults;
    }

    /** Goes through the whole text whatever is wrong in it, and keeps every fault. */
    static List<Fault> senseFaults(List<Token> tokens, Plan p) {
        List<Fault> faults = new ArrayList<>();
        Map<String, Integer> flatOf = new LinkedHashMap<>();
        Set<String> taken = new TreeSet<>();
        Set<Set<Integer>> wired = new java.util.HashSet<>();
        int i = 0;
        while (!tokens.get(i).kind().equals("end")) {
            int end = i;
            while (!tokens.get(end).kind().equals(";")) end++;
            List<Token> t = tokens.subList(i, end);
            switch (t.get(0).kind()) {
                case "flat" -> {
                    if (!taken.add(t.get(1).text())) faults.add(new Fault(t.get(1).place(), 3));
                    int temper = number(t.get(2), 0, 9, faults);
                    flatOf.putIfAbsent(t.get(1).text(), p.names.size());
                    p.names.add(t.get(1).text());
                    p.tempers.add(temper);
                }
                case "wire" -> {
                    Integer a = flatOf.get(t.get(1).text());
                    Integer b = flatOf.get(t.get(2).text());
                    if (a == null) faults.add(new Fault(t.get(1).place(), 4));
                    if (b == null) faults.add(new Fault(t.get(2).place(), 4));
                    if (a != null && b != null && (a.equals(b) || !wired.add(new TreeSet<>(List.of(a, b))))) {
                        faults.add(new Fault(t.get(2).place(), 3));
                    }
                    int rating = number(t.get(3), 1, 99, faults);
                    p.wires.add(new Wire(a == null ? 0 : a, b == null ? 0 : b, rating));
                }
                case "use" -> {
                    if (!taken.add(t.get(1).text())) faults.add(new Fault(t.get(1).place(), 3));
                    Integer f = flatOf.get(t.get(2).text());
                    if (f == null) faults.add(new Fault(t.get(2).place(), 4));
                    int amps = number(t.get(3), 1, 19, faults);
                    int from = number(t.get(4), 0, 23, faults);
                    int till = number(t.get(5), from, 23, faults);
                    p.uses.add(new Use(f == null ? 0 : f, amps, from, till));
                }
                case "surge" -> {
                    p.surgeShare = number(t.get(1), 0, 100, faults);
                    p.surgeAmps = number(t.get(2), 0, 19, faults);
                }
                case "coins" -> p.coins = number(t.get(1), 0, 999, faults);
                case "seed" -> p.seed = number(t.get(1), 0, 9999, faults);
                default -> p.laws.put(t.get(0).kind(), new Law(tokens.subList(i + 2, end + 1)));
            }
            i = end + 1;
        }
        return faults;
    }

    static int number(Token t, int least, int most, List<Fault> faults) {
        int n = Integer.parseInt(t.text());
        if (n < least || n > most) faults.add(new Fault(t.place(), 5));
        return n;
    }

    int feed(int a, int b, int c, int d, int e) {
        if (tape.length() > 1980) return -1;
        for (int v : new int[] {a, b, c, d, e}) {
            for (int s = 24; s >= 0; s -= 8) tape.append((char) (v >> s & 255));
        }
        return tape.length();
    }

    int back(int n) {
        if (n < 0 || n > tape.length()) return -1;
        tape.setLength(tape.length() - n);
        return tape.length();
    }

    int read() {
        List<Token> tokens = lex(tape.toString());
        tape = new StringBuilder();
        Plan p = new Plan();
        List<Fault> faults = shapeFaults(tokens);
        if (faults.isEmpty()) faults = senseFaults(tokens, p);
        if (!faults.isEmpty()) {
            Fault least = faults.stream().sorted().findFirst().get();
            place = least.place();
            return least.number();
        }
        place = -1;
        plan = p;
        now = fresh(p);
        past.clear();
        Arrays.fill(slots, null);
        facts.clear();
        return 0;
    }

    int place() {
        return place;
    }

    // ---- laws: worked out from their tokens each time

    private static final class Working {
        final List<Token> t;
        final Map<String, Integer> vars;
        int i = 0;

        Working(List<Token> t, Map<String, Integer> vars) {
            this.t = t;
            this.vars = vars;
        }

        int e() {
            int v = p();
            while (t.get(i).kind().equals("+") || t.get(i).kind().equals("-")) {
                boolean plus = t.get(i++).kind().equals("+");
                int w = p();
                v = (int) (plus ? (long) v + w : (long) v - w);
            }
            return v;
        }

        int p() {
            int v = u();
            while (t.get(i).kind().equals("*") || t.get(i).kind().equals("/")) {
                boolean times = t.get(i++).kind().equals("*");
                int w = u();
                if (!times && w == 0) throw new DividedByZero();
                v = (int) (times ? (long) v * w : (long) v / w);
            }
            return v;
        }

        int u() {
            Token k = t.get(i++);
            if (k.kind().equals("INT")) return Integer.parseInt(k.text());
            if (k.kind().equals("(")) {
                int v = e();
                i++;
                return v;
            }
            return vars.getOrDefault(k.kind(), 0);
        }

        void skipTo(String kind) {
            while (!t.get(i).kind().equals(kind)) i++;
        }

        int law() {
            while (t.get(i).kind().equals("if")) {
                i++;
                int left = e();
                i++;
                int right = e();
                i++;
                if (left < right) return e();
                skipTo("else");
                i++;
            }
            return e();
        }
    }

    int law(String name, Map<String, Integer> vars, int hourOfDay, int day) {
        Map<String, Integer> all = new HashMap<>(vars);
        all.put("hour", hourOfDay);
        all.put("day", day);
        try {
            return new Working(plan.laws.get(name).body(), all).law();
        } catch (DividedByZero z) {
            return 0;
        }
    }

    static int held(int v) {
        return v < 0 ? 0 : v > 99 ? 99 : v;
    }

    int quarrel(Now n, int f) {
        return held(law("quarrel", Map.of("temper", plan.tempers.get(f), "dark", n.dark[f], "which", f),
                n.hour % 24, n.hour / 24));
    }

    int costs(Now n, int w) {
        return held(law("costs", Map.of("rating", n.rating[w], "age", n.age[w], "which", w), n.hour % 24, n.hour / 24));
    }

    int pays(Now n, int u) {
        return held(law("pays", Map.of("amps", plan.uses.get(u).amps(), "which", u), n.hour % 24, n.hour / 24));
    }

    // ---- ways: all of them, the best one taken

    List<Integer> wayOf(boolean[] gone, int flat) {
        List<List<Integer>> all = new ArrayList<>();
        walk(gone, flat, new TreeSet<>(), new ArrayList<>(), all);
        List<Integer> best = null;
        for (List<Integer> w : all) {
            if (best == null || before(w, best)) best = w;
        }
        return best;
    }

    static boolean before(List<Integer> a, List<Integer> b) {
        if (a.size() != b.size()) return a.size() < b.size();
        for (int i = 0; i < a.size(); i++) {
            if (!a.get(i).equals(b.get(i))) return a.get(i) < b.get(i);
        }
        return false;
    }

    void walk(boolean[] gone, int at, Set<Integer> been, List<Integer> by, List<List<Integer>> all) {
        if (at == 0) {
            all.add(new ArrayList<>(by));
            return;
        }
        been.add(at);
        for (int w = 0; w < plan.wires.size(); w++) {
            Wire x = plan.wires.get(w);
            if (gone[w] || x.a() != at && x.b() != at) continue;
            int to = x.a() == at ? x.b() : x.a();
            if (been.contains(to)) continue;
            by.add(w);
            walk(gone, to, been, by, all);
            by.remove(by.size() - 1);
        }
        been.remove(at);
    }

    private final Map<String, List<List<Integer>>> waysKept = new HashMap<>();
    private Plan keptFor;

    List<List<Integer>> ways(boolean[] gone) {
        if (keptFor != plan) waysKept.clear();
        keptFor = plan;
        return waysKept.computeIfAbsent(Arrays.toString(gone), key -> {
            List<List<Integer>> all = new ArrayList<>();
            for (int f = 0; f < plan.names.size(); f++) all.add(wayOf(gone, f));
            return all;
        });
    }

    boolean lit(boolean[] gone, int f) {
        return ways(gone).get(f) != null;
    }

    int litBits(boolean[] gone) {
        int bits = 0;
        for (int f = 0; f < plan.names.size(); f++) if (lit(gone, f)) bits |= 1 << f;
        return bits;
    }

    boolean[] alsoGone(boolean[] gone, int... wires) {
        boolean[] g = gone.clone();
        for (int w : wires) g[w] = true;
        return g;
    }

    // ---- what is on and what goes

    Set<Integer> on(Now n, int hourOfDay) {
        Set<Integer> on = new TreeSet<>();
        for (int u = 0; u < plan.uses.size(); u++) {
            Use x = plan.uses.get(u);
            if (n.agreed[u] && x.from() <= hourOfDay && hourOfDay <= x.till() && lit(n.gone, x.flat())) on.add(u);
        }
        return on;
    }

    int load(Now n, int w, Set<Integer> on) {
        int amps = 0;
        for (int u : on) {
            List<Integer> way = ways(n.gone).get(plan.uses.get(u).flat());
            if (way != null && way.contains(w)) amps += plan.uses.get(u).amps();
        }
        return amps;
    }

    Set<Integer> going(Now n, Set<Integer> on, int hourOfDay, int surge) {
        Set<Integer> going = new TreeSet<>();
        for (int w = 0; w < plan.wires.size(); w++) {
            int load = load(n, w, on);
            if (n.gone[w] || n.pinned[w] || load == 0) continue;
            Map<String, Integer> vars = Map.of("load", load + surge, "rating", n.rating[w], "age", n.age[w], "which", w);
            if (law("goes", vars, hourOfDay, n.hour / 24) > 0) going.add(w);
        }
        return going;
    }

    boolean surge(int seed, int hour) {
        int h = seed;
        for (int it : new int[] {129, 4 * hour}) {
            h = (h ^ it) * 1103515245 + 12345;
            h = h ^ (h >>> 15);
        }
        return (h >>> 1) % 100 < plan.surgeShare;
    }

    Now nextHour(Now old, boolean surges, int seed) {
        Now n = old.copy();
        Set<Integer> on = on(old, old.hour % 24);
        for (int u : on) n.coins += pays(old, u);
        n.coins = Math.min(n.coins, 99999);
        Set<Integer> going = going(old, on, old.hour % 24, surges && surge(seed, old.hour) ? plan.surgeAmps : 0);
        for (int w = 0; w < plan.wires.size(); w++) {
            if (going.contains(w)) n.gone[w] = true;
            else if (!old.gone[w]) n.age[w] = Math.min(999, old.age[w] + 1);
        }
        for (int f = 0; f < plan.names.size(); f++) {
            n.dark[f] = lit(old.gone, f) ? 0 : old.dark[f] + 1;
            if (!lit(old.gone, f)) n.quarrels += quarrel(old, f);
        }
        n.quarrels = Math.min(n.quarrels, 999999);
        n.hour++;
        return n;
    }

    static int bits(Set<Integer> set) {
        return set.stream().mapToInt(i -> 1 << i).sum();
    }

    static int bits(boolean[] set) {
        int b = 0;
        for (int i = 0; i < set.length; i++) if (set[i]) b |= 1 << i;
        return b;
    }

    boolean isFlat(int f) {
        return f >= 0 && f < plan.names.size();
    }

    boolean isWire(int w) {
        return w >= 0 && w < plan.wires.size();
    }

    boolean isUse(int u) {
        return u >= 0 && u < plan.uses.size();
    }

    // ---- the face

    int flat(int f, int what) {
        if (!isFlat(f) || what < 0 || what > 5) return -1;
        if (what == 0) return plan.tempers.get(f);
        if (what == 1) return lit(now.gone, f) ? 1 : 0;
        if (what == 2) return now.dark[f];
        if (what == 3) return lit(now.gone, f) ? ways(now.gone).get(f).size() : -2;
        if (what == 4) return quarrel(now, f);
        return on(now, now.hour % 24).stream().map(plan.uses::get).filter(u -> u.flat() == f).mapToInt(Use::amps).sum();
    }

    int wire(int w, int what) {
        if (!isWire(w) || what < 0 || what > 8) return -1;
        Set<Integer> on = on(now, now.hour % 24);
        return new int[] {plan.wires.get(w).a(), plan.wires.get(w).b(), now.rating[w], now.gone[w] ? 0 : 1, now.age[w],
            now.pinned[w] ? 1 : 0, load(now, w, on), costs(now, w),
            going(now, on, now.hour % 24, 0).contains(w) ? 1 : 0}[what];
    }

    int use(int u, int what) {
        if (!isUse(u) || what < 0 || what > 6) return -1;
        Use x = plan.uses.get(u);
        boolean on = on(now, now.hour % 24).contains(u);
        return new int[] {x.flat(), x.amps(), x.from(), x.till(), now.agreed[u] ? 1 : 0, on ? 1 : 0,
            on ? pays(now, u) : 0}[what];
    }

    private void done(Now next) {
        past.push(now);
        if (past.size() > 40) past.removeLast();
        now = next;
    }

    boolean agree(int u, boolean on) {
        if (!isUse(u) || now.agreed[u] == on) return false;
        Now n = now.copy();
        n.agreed[u] = on;
        done(n);
        return true;
    }

    int mend(int w) {
        if (!isWire(w)) return -1;
        if (!now.gone[w] || costs(now, w) > now.coins) return -2;
        Now n = now.copy();
        n.coins -= costs(now, w);
        n.gone[w] = false;
        n.pinned[w] = false;
        n.age[w] = 0;
        done(n);
        return n.coins;
    }

    int thicken(int w) {
        if (!isWire(w)) return -1;
        if (now.gone[w] || now.rating[w] == 99 || costs(now, w) > now.coins) return -2;
        Now n = now.copy();
        n.coins -= costs(now, w);
        n.rating[w]++;
        done(n);
        return n.coins;
    }

    boolean pin(int w, boolean on) {
        if (!isWire(w) || now.gone[w] || now.pinned[w] == on) return false;
        Now n = now.copy();
        n.pinned[w] = on;
        done(n);
        return true;
    }

    Now after(Now from, int n, boolean surges, int seed) {
        Now s = from;
        for (int i = 0; i < n; i++) s = nextHour(s, surges, seed);
        return s;
    }

    int hours(int n) {
        if (n < 0 || n > 72) return -1;
        if (n > 0) done(after(now, n, true, plan.seed));
        return now.hour;
    }

    boolean undo() {
        if (past.isEmpty()) return false;
        now = past.pop();
        return true;
    }

    int way(int f, int i) {
        if (!isFlat(f) || i < 0) return -1;
        List<Integer> way = ways(now.gone).get(f);
        if (way == null) return -2;
        return i < way.size() ? way.get(i) : -1;
    }

    int peak(int w, int n, int what) {
        if (!isWire(w) || n < 1 || n > 48 || what < 0 || what > 1) return -1;
        List<Integer> loads = new ArrayList<>();
        Now s = now;
        for (int i = 0; i < n; i++) {
            loads.add(load(s, w, on(s, s.hour % 24)));
            s = nextHour(s, false, 0);
        }
        int most = loads.stream().mapToInt(x -> x).max().getAsInt();
        return what == 0 ? most : loads.indexOf(most);
    }

    /** Hours and wire; null if none goes. */
    int[] firstOf(Now from) {
        Now s = from;
        for (int h = 1; h <= 200; h++) {
            s = nextHour(s, false, 0);
            for (int w = 0; w < s.gone.length; w++) {
                if (s.gone[w] && !from.gone[w]) return new int[] {h, w};
            }
        }
        return null;
    }

    int first(int what) {
        if (what < 0 || what > 1) return -1;
        int[] f = firstOf(now);
        return f == null ? -2 : f[what];
    }

    int together(int what) {
        if (what < 0 || what > 1) return -1;
        int most = -1;
        int which = 0;
        for (int bits = (1 << plan.uses.size()) - 1; bits >= 0; bits--) {
            Set<Integer> set = new TreeSet<>();
            int pay = 0;
            boolean lit = true;
            for (int u = 0; u < plan.uses.size(); u++) {
                if ((bits >> u & 1) == 0) continue;
                set.add(u);
                pay += pays(now, u);
                lit &= lit(now.gone, plan.uses.get(u).flat());
            }
            if (lit && pay >= most && going(now, set, now.hour % 24, 0).isEmpty()) {
                most = pay;
                which = bits;
            }
        }
        return what == 0 ? most : which;
    }

    int when(int u) {
        if (!isUse(u)) return -1;
        Use x = plan.uses.get(u);
        int length = x.till() - x.from() + 1;
        for (int h = 0; h + length <= 24; h++) {
            boolean fine = true;
            for (int t = h; t < h + length; t++) {
                Set<Integer> on = on(now, t);
                on.remove(u);
                if (lit(now.gone, x.flat())) on.add(u);
                fine &= going(now, on, t, 0).isEmpty();
            }
            if (fine) return h;
        }
        return -2;
    }

    int thick(int k) {
        if (k < 1 || k > 20) return -1;
        int[] f = firstOf(now);
        int latest = f == null ? 1000 : f[0];
        int best = -2;
        for (int w = 0; w < plan.wires.size(); w++) {
            if (now.gone[w]) continue;
            Now n = now.copy();
            n.rating[w] = Math.min(99, n.rating[w] + k);
            int[] g = firstOf(n);
            int at = g == null ? 1000 : g[0];
            if (at > latest) {
                latest = at;
                best = w;
            }
        }
        return best;
    }

    List<Integer> cutOf(int f) {
        List<List<Integer>> sets = new ArrayList<>();
        int m = plan.wires.size();
        for (int bits = 0; bits < 1 << m; bits++) {
            if (Integer.bitCount(bits) > 3 || (bits & bits(now.gone)) != 0) continue;
            List<Integer> set = new ArrayList<>();
            for (int w = 0; w < m; w++) if ((bits >> w & 1) != 0) set.add(w);
            if (!lit(alsoGone(now.gone, set.stream().mapToInt(x -> x).toArray()), f)) sets.add(set);
        }
        List<Integer> best = null;
        for (List<Integer> s : sets) if (best == null || before(s, best)) best = s;
        return best;
    }

    int cut(int f, int i) {
        if (!isFlat(f) || i < -1 || i > 2) return -1;
        List<Integer> c = cutOf(f);
        if (c == null) return -2;
        return i == -1 ? c.size() : i < c.size() ? c.get(i) : -1;
    }

    int share(int f, int w) {
        if (!isFlat(f) || !isWire(w)) return -1;
        Set<Integer> on = on(now, now.hour % 24);
        Set<Integer> others = new TreeSet<>(on);
        others.removeIf(u -> plan.uses.get(u).flat() == f);
        return load(now, w, on) - load(now, w, others);
    }

    int without(int w) {
        return isWire(w) ? (1 << plan.names.size()) - 1 - litBits(alsoGone(now.gone, w)) : -1;
    }

    int needed() {
        int bits = 0;
        for (int w = 0; w < plan.wires.size(); w++) {
            if (!now.gone[w] && (litBits(now.gone) & ~litBits(alsoGone(now.gone, w))) != 0) bits |= 1 << w;
        }
        return bits;
    }

    int hottest(int what) {
        if (what < 0 || what > 1) return -1000;
        int best = -2000;
        int which = -2000;
        for (int w = plan.wires.size() - 1; w >= 0; w--) {
            int above = load(now, w, on(now, now.hour % 24)) - now.rating[w];
            if (!now.gone[w] && above >= best) {
                best = above;
                which = w;
            }
        }
        return what == 0 ? which : best;
    }

    int clash(int u, int v) {
        if (!isUse(u) || !isUse(v) || u == v) return -1;
        if (!lit(now.gone, plan.uses.get(u).flat()) || !lit(now.gone, plan.uses.get(v).flat())) return 0;
        Set<Integer> both = going(now, Set.of(u, v), now.hour % 24, 0);
        both.removeAll(going(now, Set.of(u), now.hour % 24, 0));
        both.removeAll(going(now, Set.of(v), now.hour % 24, 0));
        return both.size();
    }

    int then(int n, int what) {
        if (n < 0 || n > 72 || what < 0 || what > 2) return -1;
        Now s = after(now, n, true, plan.seed);
        return new int[] {s.coins - now.coins, s.quarrels - now.quarrels, Integer.bitCount(bits(s.gone))}[what];
    }

    int litIn(int f, int n) {
        if (!isFlat(f) || n < 0 || n > 72) return -1;
        return lit(after(now, n, true, plan.seed).gone, f) ? 1 : 0;
    }

    int year(int n, int s) {
        if (n < 0 || n > 72 || s < 1 || s > 20) return -1;
        int calm = 0;
        for (int i = 0; i < s; i++) {
            if (Arrays.equals(after(now, n, true, plan.seed + i).gone, now.gone)) calm++;
        }
        return calm;
    }

    int tell(int f, boolean lit) {
        if (!isFlat(f) || facts.size() == 20) return -1;
        facts.add(new Fact(f, lit));
        return facts.size() - 1;
    }

    int forget() {
        int n = facts.size();
        facts.clear();
        return n;
    }

    Set<Integer> left(List<Fact> known) {
        Set<Integer> left = new TreeSet<>();
        for (int w = 0; w < plan.wires.size(); w++) {
            if (now.gone[w]) continue;
            boolean[] gone = alsoGone(now.gone, w);
            if (known.stream().allMatch(k -> lit(gone, k.flat()) == k.lit())) left.add(w);
        }
        return left;
    }

    int went(int k, int what) {
        if (k < 0 || k > facts.size() || what < 0 || what > 1) return -1;
        Set<Integer> left = left(facts.subList(0, k));
        return what == 0 ? left.size() : bits(left);
    }

    int ask(int k) {
        if (k < 0 || k > facts.size()) return -1;
        if (left(facts.subList(0, k)).isEmpty()) return -2;
        int best = -2;
        int fewest = 1000;
        for (int f = 0; f < plan.names.size(); f++) {
            int worst = 0;
            for (boolean lit : new boolean[] {true, false}) {
                List<Fact> more = new ArrayList<>(facts.subList(0, k));
                more.add(new Fact(f, lit));
                worst = Math.max(worst, left(more).size());
            }
            if (worst < fewest) {
                fewest = worst;
                best = f;
            }
        }
        return best;
    }

    boolean hold(int slot) {
        if (slot < 0 || slot > 2) return false;
        slots[slot] = now;
        return true;
    }

    boolean restore(int slot) {
        if (slot < 0 || slot > 2 || slots[slot] == null) return false;
        now = slots[slot];
        past.clear();
        return true;
    }

    int count(int what) {
        int whole = 0;
        for (int w = 0; w < plan.wires.size(); w++) if (!now.gone[w]) whole += now.rating[w];
        int[] all = {plan.names.size(), plan.wires.size(), plan.uses.size(), now.hour, now.coins, now.quarrels,
            bits(now.gone), litBits(now.gone), bits(on(now, now.hour % 24)), tape.length(), past.size(), facts.size(),
            (int) Arrays.stream(slots).filter(s -> s != null).count(), surge(plan.seed, now.hour) ? 1 : 0,
            bits(now.pinned), whole};
        return what < 0 || what >= all.length ? -1 : all[what];
    }
}
