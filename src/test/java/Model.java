import java.util.ArrayList;
import java.util.Arrays;
import java.util.HashMap;
import java.util.HashSet;
import java.util.LinkedList;
import java.util.List;
import java.util.Map;
import java.util.Set;
import java.util.TreeMap;

/**
 * The document once more, as plainly as can be and without care for speed: sets are gone through one by
 * one, nothing is shared. ModelTest holds the class against it.
 */
final class Model {
    static final int NONE = -1;

    static final class Fault extends RuntimeException {
        private static final long serialVersionUID = 1L;
        final int kind;
        final int place;

        Fault(int kind, int place) {
            this.kind = kind;
            this.place = place;
        }
    }

    interface Formula {
        long at(Map<String, Long> facts);
    }

    static final class Spec {
        int statements, rooms, bench = 1, steps = 10, knock;
        final List<String> names = new ArrayList<>();
        final List<int[]> pairs = new ArrayList<>();
        final List<Integer> ins = new ArrayList<>();
        final Set<Integer> shut = new HashSet<>();
        final Map<String, Formula> formulas = new HashMap<>();
    }

    static final class St {
        int night, purse;
        Set<Integer> shut = new HashSet<>();
        int[] where;
        int[] stay;
        List<Integer> bench = new LinkedList<>();
        List<int[]> kept = new ArrayList<>();

        St copy() {
            St c = new St();
            c.night = night;
            c.purse = purse;
            c.shut = new HashSet<>(shut);
            c.where = where.clone();
            c.stay = stay.clone();
            c.bench = new LinkedList<>(bench);
            c.kept = new ArrayList<>(kept);
            return c;
        }

        int sleeper(int room) {
            for (int i = 0; i < where.length; i++) if (where[i] == room) return i;
            return NONE;
        }

        boolean free(int room) {
            return sleeper(room) == NONE && !shut.contains(room);
        }
    }

    // ---------------------------------------------------------------- the text

    static final class Token {
        String text = "";
        int start;
        int bad = -1;
    }

    static final Set<String> OWN = new HashSet<>(Arrays.asList(("rooms,bench,steps,knock,lodger,has,in,shut,yields,"
        + "leaves,rents,night,room,nights,empty,step,first,if,or,and,not,all,min,max").split(",")));

    static final class Reading {
        final List<Token> tokens = new ArrayList<>();
        int p = 0;
        Spec spec = new Spec();
        int opened = 0;
        String inside = "";

        Reading(int[] bytes) {
            boolean wordy = false;
            int i = 0;
            while (i < bytes.length) {
                if (bytes[i] == 10 || bytes[i] == 32) {
                    wordy = false;
                    i++;
                    continue;
                }
                Token t = new Token();
                t.start = i;
                boolean letters = bytes[i] >= 97 && bytes[i] <= 122;
                boolean digits = bytes[i] >= 48 && bytes[i] <= 57;
                StringBuilder b = new StringBuilder();
                int j = i;
                while (j < bytes.length && (letters && bytes[j] >= 97 && bytes[j] <= 122 || digits && bytes[j] >= 48 && bytes[j] <= 57)) {
                    b.append((char) bytes[j]);
                    j++;
                }
                if (!letters && !digits) {
                    b.append((char) bytes[j]);
                    j++;
                }
                t.text = b.toString();
                if (letters && t.text.length() > 6) t.bad = i + 6;
                if (digits && t.text.length() > 4) t.bad = i + 4;
                if (wordy && (letters || digits)) t.bad = i;
                tokens.add(t);
                wordy = letters || digits;
                i = j;
            }
            Token end = new Token();
            end.start = bytes.length;
            tokens.add(end);
        }

        Token t() {
            return tokens.get(p);
        }

        Fault odd() {
            return new Fault(1, t().bad >= 0 ? t().bad : t().start);
        }

        boolean see(String s) {
            return t().bad < 0 && t().text.equals(s);
        }

        void must(String s) {
            if (!see(s)) throw odd();
            p++;
        }

        String name() {
            if (t().bad >= 0 || !t().text.matches("[a-z]+") || OWN.contains(t().text)) throw odd();
            return t().text;
        }

        int number(int low, int high) {
            if (t().bad >= 0 || !t().text.matches("[0-9]+")) throw odd();
            int n = Integer.parseInt(t().text);
            if (n < low || n > high) throw new Fault(4, t().start);
            p++;
            return n;
        }

        Spec read() {
            while (p < tokens.size() - 1) {
                if (spec.statements == 60) throw new Fault(6, t().start);
                statement();
                must(";");
                spec.statements++;
            }
            if (spec.statements == 0) throw odd();
            return spec;
        }

        void statement() {
            String w = t().bad >= 0 ? "?" : t().text;
            int at = t().start;
            if (spec.statements == 0) {
                must("rooms");
                spec.rooms = number(2, 16);
                return;
            }
            switch (w) {
                case "bench": p++; spec.bench = number(0, 6); return;
                case "steps": p++; spec.steps = number(1, 40); return;
                case "knock": p++; spec.knock = number(0, 100); return;
                case "shut": {
                    p++;
                    int place = t().start;
                    if (!spec.shut.add(number(0, spec.rooms - 1))) throw new Fault(4, place);
                    return;
                }
                case "lodger": {
                    if (spec.names.size() == 16) throw new Fault(6, at);
                    p++;
                    String n = name();
                    if (spec.names.contains(n)) throw new Fault(2, t().start);
                    p++;
                    must("has");
                    int a = number(0, spec.rooms - 1);
                    int place = t().start;
                    int b = number(0, spec.rooms - 1);
                    if (a == b) throw new Fault(4, place);
                    spec.names.add(n);
                    spec.pairs.add(new int[] {a, b});
                    return;
                }
                case "in": {
                    p++;
                    int who = spec.names.indexOf(name());
                    if (who < 0 || spec.ins.contains(who)) throw new Fault(3, t().start);
                    spec.ins.add(who);
                    p++;
                    return;
                }
                case "yields":
                case "leaves":
                case "rents":
                    if (spec.formulas.containsKey(w)) throw new Fault(6, at);
                    p++;
                    inside = w;
                    spec.formulas.put(w, w.equals("rents") ? sum() : test());
                    return;
                default:
                    throw odd();
            }
        }

        void open() {
            if (opened == 7) throw new Fault(5, t().start);
            opened++;
            p++;
        }

        Formula test() {
            Formula f = both();
            while (see("or")) {
                p++;
                Formula l = f;
                Formula r = both();
                f = m -> l.at(m) + r.at(m) > 0 ? 1 : 0;
            }
            return f;
        }

        Formula both() {
            Formula f = fact();
            while (see("and")) {
                p++;
                Formula l = f;
                Formula r = fact();
                f = m -> l.at(m) * r.at(m);
            }
            return f;
        }

        Formula fact() {
            if (see("not")) {
                open();
                Formula f = fact();
                opened--;
                return m -> f.at(m) == 0 ? 1 : 0;
            }
            if (see("[")) {
                open();
                Formula f = test();
                must("]");
                opened--;
                return f;
            }
            if (see("all")) {
                p++;
                return m -> 1;
            }
            Formula l = sum();
            String sign = t().text;
            if (!see("<") && !see(">") && !see("=")) throw odd();
            p++;
            Formula r = sum();
            return m -> {
                int c = Long.compare(l.at(m), r.at(m));
                return sign.equals("<") && c < 0 || sign.equals(">") && c > 0 || sign.equals("=") && c == 0 ? 1 : 0;
            };
        }

        static long cut(long v) {
            return v > 1000000 ? 1000000 : v < -1000000 ? -1000000 : v;
        }

        Formula sum() {
            Formula f = product();
            while (see("+") || see("-")) {
                int by = see("+") ? 1 : -1;
                p++;
                Formula l = f;
                Formula r = product();
                f = m -> cut(l.at(m) + by * r.at(m));
            }
            return f;
        }

        Formula product() {
            Formula f = part();
            while (see("*") || see("/") || see("%")) {
                String s = t().text;
                p++;
                Formula l = f;
                Formula r = part();
                f = m -> {
                    long a = l.at(m);
                    long b = r.at(m);
                    if (s.equals("*")) return cut(a * b);
                    if (b == 0) return 0;
                    long q = (long) Math.floor((double) a / b);
                    return s.equals("/") ? q : a - b * q;
                };
            }
            return f;
        }

        Formula part() {
            Token t = t();
            if (see("(")) {
                open();
                Formula f = sum();
                must(")");
                opened--;
                return f;
            }
            if (see("min") || see("max")) {
                boolean least = see("min");
                p++;
                if (!see("(")) throw odd();
                open();
                Formula a = sum();
                must(",");
                Formula b = sum();
                must(")");
                opened--;
                return m -> least == a.at(m) < b.at(m) ? a.at(m) : b.at(m);
            }
            if (see("if")) {
                p++;
                if (!see("(")) throw odd();
                open();
                Formula c = test();
                must(",");
                Formula a = sum();
                must(",");
                Formula b = sum();
                must(")");
                opened--;
                return m -> c.at(m) > 0 ? a.at(m) : b.at(m);
            }
            if (t.bad < 0 && t.text.matches("[0-9]+")) {
                long n = Long.parseLong(t.text);
                p++;
                return m -> n;
            }
            String own = inside.equals("yields") ? "step" : inside.equals("leaves") ? "bench" : "first";
            if (t.bad >= 0 || !Arrays.asList("night", "room", "nights", "empty", own).contains(t.text)) throw odd();
            String w = t.text;
            p++;
            return m -> m.get(w);
        }
    }

    // ---------------------------------------------------------------- the lodge

    final List<Integer> tape = new ArrayList<>();
    Spec spec = null;
    St st = blank();
    final LinkedList<St> acts = new LinkedList<>();
    List<int[]> met = new ArrayList<>();
    List<Integer> picture = new ArrayList<>();
    final int[] refusals = new int[6];
    long seed = 1;
    int fault = 0;
    int place = NONE;

    static St blank() {
        St s = new St();
        s.where = new int[0];
        s.stay = new int[0];
        return s;
    }

    int rooms() {
        return spec == null ? 0 : spec.rooms;
    }

    int lodgers() {
        return spec == null ? 0 : spec.names.size();
    }

    boolean isRoom(int r) {
        return r >= 0 && r < rooms();
    }

    boolean isLodger(int l) {
        return l >= 0 && l < lodgers();
    }

    boolean away(int l) {
        return isLodger(l) && st.where[l] == 255;
    }

    int no(int kind) {
        refusals[kind]++;
        return NONE;
    }

    boolean nope(int kind) {
        refusals[kind]++;
        return false;
    }

    int[] takeTape() {
        int[] b = new int[tape.size()];
        for (int i = 0; i < b.length; i++) b[i] = tape.get(i);
        tape.clear();
        return b;
    }

    int empties(St s) {
        int n = 0;
        for (int r = 0; r < rooms(); r++) if (s.free(r)) n++;
        return n;
    }

    Map<String, Long> facts(St s, int l, int step) {
        Map<String, Long> m = new HashMap<>();
        m.put("night", (long) s.night);
        m.put("room", (long) s.where[l]);
        m.put("nights", (long) s.stay[l]);
        m.put("empty", (long) empties(s));
        m.put("step", (long) step);
        m.put("bench", (long) s.bench.size());
        m.put("first", s.where[l] == spec.pairs.get(l)[0] ? 1L : 0L);
        return m;
    }

    boolean yields(St s, int room, int step, int steps) {
        int l = s.sleeper(room);
        if (l == NONE || s.shut.contains(room) || step >= steps) return false;
        Formula f = spec.formulas.get("yields");
        return f == null || f.at(facts(s, l, step)) > 0;
    }

    void lay(St s, int l, int room) {
        s.where[l] = room;
        s.stay[l] = 0;
    }

    boolean layFree(St s, int l) {
        for (int r : spec.pairs.get(l)) {
            if (s.free(r)) {
                lay(s, l, r);
                return true;
            }
        }
        return false;
    }

    List<int[]> arrive(St s, int l, int steps) {
        List<int[]> outs = new ArrayList<>();
        if (layFree(s, l)) return outs;
        for (int r : spec.pairs.get(l)) {
            if (yields(s, r, 0, steps)) {
                int old = s.sleeper(r);
                s.where[old] = 1000;
                lay(s, l, r);
                outs.add(new int[] {s.night, old, r});
                wander(s, old, r, outs, steps);
                return outs;
            }
        }
        toBench(s, l);
        return outs;
    }

    void wander(St s, int l, int from, List<int[]> outs, int steps) {
        int[] pair = spec.pairs.get(l);
        int to = pair[0] == from ? pair[1] : pair[0];
        if (s.free(to)) {
            lay(s, l, to);
        } else if (yields(s, to, outs.size(), steps)) {
            int old = s.sleeper(to);
            s.where[old] = 1000;
            lay(s, l, to);
            outs.add(new int[] {s.night, old, to});
            wander(s, old, to, outs, steps);
        } else {
            toBench(s, l);
        }
    }

    void toBench(St s, int l) {
        s.stay[l] = 0;
        s.where[l] = 255;
        if (s.bench.size() < spec.bench) {
            s.bench.add(l);
            s.where[l] = 254;
        }
    }

    int night(St s) {
        for (Integer l : new ArrayList<>(s.bench)) {
            if (layFree(s, l)) s.bench.remove(l);
        }
        int paid = 0;
        Formula rents = spec.formulas.get("rents");
        for (int r = 0; r < rooms(); r++) {
            int l = s.sleeper(r);
            if (l == NONE) continue;
            int rent = rents == null ? 1 : (int) Math.max(0, Math.min(99, rents.at(facts(s, l, 0))));
            paid += rent;
            s.purse = Math.min(999999, s.purse + rent);
        }
        for (int l = 0; l < lodgers(); l++) if (s.where[l] < 16) s.stay[l] = Math.min(99, s.stay[l] + 1);
        Formula leaves = spec.formulas.get("leaves");
        for (int l = 0; l < lodgers(); l++) {
            if (leaves != null && s.where[l] < 16 && leaves.at(facts(s, l, 0)) > 0) {
                s.where[l] = 255;
                s.stay[l] = 0;
            }
        }
        s.night = Math.min(999, s.night + 1);
        return paid;
    }

    // ---------------------------------------------------------------- the face

    int feed(int a, int b, int c, int d, int e) {
        if (tape.size() > 1580) return no(0);
        for (int n : new int[] {a, b, c, d, e}) {
            tape.add(n >>> 24);
            tape.add(n >>> 16 & 255);
            tape.add(n >>> 8 & 255);
            tape.add(n & 255);
        }
        return tape.size();
    }

    boolean end(int n) {
        if (n < 0 || n > tape.size()) return nope(0);
        while (tape.size() > n) tape.remove(tape.size() - 1);
        return true;
    }

    int lodge() {
        try {
            Spec read = new Reading(takeTape()).read();
            fault = 0;
            place = NONE;
            spec = read;
        } catch (Fault f) {
            fault = f.kind;
            place = f.place;
            return no(1);
        }
        st = new St();
        st.where = new int[lodgers()];
        Arrays.fill(st.where, 255);
        st.stay = new int[lodgers()];
        st.shut = new HashSet<>(spec.shut);
        acts.clear();
        met = new ArrayList<>();
        for (int l : spec.ins) arrive(st, l, spec.steps);
        return spec.statements;
    }

    int fault(int what) {
        return what == 0 ? fault : what == 1 ? place : NONE;
    }

    int has(int what) {
        int sleepers = 0;
        for (int w : st.where) if (w < 16) sleepers++;
        int[] all = {rooms(), lodgers(), sleepers, st.bench.size(), lodgers() - sleepers - st.bench.size(), empties(st),
            st.shut.size(), st.night, st.purse, spec == null ? 0 : spec.bench, spec == null ? 0 : spec.steps,
            st.kept.size(), met.size(), acts.size(), (int) seed};
        return what >= 0 && what < all.length ? all[what] : NONE;
    }

    int letter(int lodger, int k) {
        if (!isLodger(lodger) || k < 0 || k > 5) return NONE;
        String n = spec.names.get(lodger);
        return k < n.length() ? n.charAt(k) - 96 : 0;
    }

    int room(int room, int what) {
        if (!isRoom(room)) return NONE;
        switch (what) {
            case 0: return st.sleeper(room);
            case 1: return st.shut.contains(room) ? 1 : 0;
            case 2: return st.free(room) ? 1 : 0;
            case 3: return (int) spec.pairs.stream().filter(p -> p[0] == room || p[1] == room).count();
            case 4: return yields(st, room, 0, spec.steps) ? 1 : 0;
            default: return NONE;
        }
    }

    int lodger(int lodger, int what) {
        if (!isLodger(lodger)) return NONE;
        switch (what) {
            case 0: return spec.pairs.get(lodger)[0];
            case 1: return spec.pairs.get(lodger)[1];
            case 2: return st.where[lodger] < 16 ? st.where[lodger] : NONE;
            case 3: return st.stay[lodger];
            case 4: return st.bench.indexOf(lodger);
            default: return NONE;
        }
    }

    int bench(int k) {
        return k >= 0 && k < st.bench.size() ? st.bench.get(k) : NONE;
    }

    int chain(int lodger, int k) {
        if (!away(lodger)) return NONE;
        List<int[]> outs = arrive(st.copy(), lodger, spec.steps);
        return k == NONE ? outs.size() : k >= 0 && k < outs.size() ? outs.get(k)[1] : NONE;
    }

    St after(St from, int n) {
        if (n < 0 || n > 40 || from.night + n > 999) return null;
        St s = from.copy();
        for (int i = 0; i < n; i++) night(s);
        return s;
    }

    int later(int room, int n) {
        if (!isRoom(room)) return NONE;
        St s = after(st, n);
        return s == null ? NONE : s.sleeper(room);
    }

    int sleeps(int lodger) {
        if (!isLodger(lodger)) return NONE;
        for (int n = 0; n <= 40; n++) {
            St s = after(st, n);
            if (s != null && s.where[lodger] < 16) return n;
        }
        return NONE;
    }

    int purse(int n) {
        if (spec == null) return NONE;
        St s = after(st, n);
        return s == null ? NONE : s.purse;
    }

    int assignments(int set, int l, Set<Integer> used) {
        if (l == lodgers()) return 1;
        if ((set >> l & 1) == 0) return assignments(set, l + 1, used);
        int n = 0;
        for (int r : spec.pairs.get(l)) {
            if (!st.shut.contains(r) && used.add(r)) {
                n += assignments(set, l + 1, used);
                used.remove(r);
            }
        }
        return n;
    }

    boolean together(int set) {
        return assignments(set, 0, new HashSet<>()) > 0;
    }

    boolean isSet(int set) {
        return set >= 0 && set < 1 << lodgers();
    }

    int most(int set) {
        return isSet(set) ? Integer.bitCount(set) - Integer.bitCount(turned(set)) : NONE;
    }

    int ways(int set) {
        return isSet(set) ? assignments(set, 0, new HashSet<>()) : NONE;
    }

    int turned(int set) {
        if (!isSet(set)) return NONE;
        int best = set;
        for (int t = set; ; t = t - 1 & set) {
            int byCount = Integer.compare(Integer.bitCount(t), Integer.bitCount(best));
            if ((byCount < 0 || byCount == 0 && t < best) && together(set & ~t)) best = t;
            if (t == 0) return best;
        }
    }

    int crowd() {
        int best = NONE;
        for (int s = 1; s < 1 << lodgers(); s++) {
            if ((best == NONE || Integer.bitCount(s) < Integer.bitCount(best)) && !together(s)) best = s;
        }
        return best;
    }

    /** The fewest of all sets of SLEEPERS that change to their other rooms, so that this room is free and no bed is shared. */
    int clear(int room) {
        if (!isRoom(room) || st.shut.contains(room)) return NONE;
        int sleepers = 0;
        for (int l = 0; l < lodgers(); l++) if (st.where[l] < 16) sleepers |= 1 << l;
        int best = NONE;
        for (int set = sleepers; ; set = set - 1 & sleepers) {
            if ((best == NONE || Integer.bitCount(set) < best) && freesBy(room, set)) best = Integer.bitCount(set);
            if (set == 0) return best;
        }
    }

    boolean freesBy(int room, int set) {
        Set<Integer> used = new HashSet<>(st.shut);
        used.add(room);
        for (int l = 0; l < lodgers(); l++) {
            if (st.where[l] >= 16) continue;
            int[] p = spec.pairs.get(l);
            int to = (set >> l & 1) == 0 ? st.where[l] : p[0] == st.where[l] ? p[1] : p[0];
            if (!used.add(to)) return false;
        }
        return true;
    }

    int moves(int lodger) {
        if (!isLodger(lodger) || st.where[lodger] < 16) return NONE;
        int a = clear(spec.pairs.get(lodger)[0]);
        int b = clear(spec.pairs.get(lodger)[1]);
        return a == NONE ? b : b == NONE ? a : Math.min(a, b);
    }

    int odds(int lodger) {
        if (lodgers() == 0 || st.night >= 999 || lodger != NONE && !isLodger(lodger)) return NONE;
        int rows = 0;
        for (int d = 0; d < 100; d++) {
            for (int q = 0; q < lodgers(); q++) {
                if (lodger == NONE) {
                    rows++;
                    continue;
                }
                St s = st.copy();
                if (d < spec.knock && away(q)) arrive(s, q, spec.steps);
                night(s);
                if (s.where[lodger] < 16) rows++;
            }
        }
        return rows;
    }

    int meet() {
        int[] b = takeTape();
        List<int[]> rows = new ArrayList<>();
        for (int i = 0; i + 2 < b.length; i += 3) {
            if (b[i] <= 30 && isRoom(b[i + 1]) && (b[i + 2] == 255 || isLodger(b[i + 2]))) {
                rows.add(new int[] {b[i], b[i + 1], b[i + 2] == 255 ? NONE : b[i + 2]});
            }
        }
        if (b.length % 3 != 0 || rows.isEmpty() || rows.size() > 16 || rows.size() * 3 != b.length) return no(5);
        met = rows;
        return met.size();
    }

    List<Integer> stepsBy(int lodger) {
        List<Integer> all = new ArrayList<>();
        for (int k = 1; k <= 40; k++) {
            St begun = st.copy();
            arrive(begun, lodger, k);
            boolean fits = true;
            for (int[] row : met) {
                St s = after(begun, row[0]);
                fits = fits && s != null && s.sleeper(row[1]) == row[2];
            }
            if (fits) all.add(k);
        }
        return all;
    }

    int stepped(int lodger, int k) {
        if (!away(lodger)) return NONE;
        List<Integer> all = stepsBy(lodger);
        return k == NONE ? all.size() : k >= 0 && k < all.size() ? all.get(k) : NONE;
    }

    int tells(int lodger, int what) {
        if (!away(lodger) || what < 0 || what > 2) return NONE;
        List<Integer> all = stepsBy(lodger);
        if (all.isEmpty()) return NONE;
        int[] best = null;
        for (int n = 0; n <= 30; n++) {
            List<St> then = new ArrayList<>();
            for (int k : all) {
                St s = st.copy();
                arrive(s, lodger, k);
                then.add(after(s, n));
            }
            if (then.get(0) == null) break;
            for (int r = 0; r < rooms(); r++) {
                Map<Integer, Integer> groups = new TreeMap<>();
                for (St s : then) groups.merge(s.sleeper(r), 1, Integer::sum);
                int most = groups.values().stream().max(Integer::compare).get();
                if (best == null || most < best[2]) best = new int[] {n, r, most};
            }
        }
        return best == null ? NONE : best[what];
    }

    void act() {
        acts.add(st.copy());
        if (acts.size() > 20) acts.removeFirst();
    }

    int arriveKept(int lodger) {
        List<int[]> outs = arrive(st, lodger, spec.steps);
        st.kept.addAll(outs);
        while (st.kept.size() > 40) st.kept.remove(0);
        return outs.size();
    }

    int come(int lodger) {
        if (!away(lodger)) return no(3);
        act();
        return arriveKept(lodger);
    }

    boolean go(int lodger) {
        if (!isLodger(lodger) || away(lodger)) return nope(3);
        act();
        st.where[lodger] = 255;
        st.stay[lodger] = 0;
        st.bench.remove((Integer) lodger);
        return true;
    }

    boolean shut(int room, int on) {
        if (!isRoom(room) || !(on == 1 && st.free(room) || on == 0 && st.shut.contains(room))) return nope(3);
        act();
        if (on == 1) st.shut.add(room);
        else st.shut.remove(room);
        return true;
    }

    int nights(int n) {
        if (spec == null || n < 1 || n > 40 || st.night + n > 999) return no(2);
        act();
        int paid = 0;
        for (int i = 0; i < n; i++) paid += night(st);
        return paid;
    }

    int draw(int m) {
        seed = (1103515245L * seed + 12345L) % (1L << 31);
        return (int) (seed / 64 % m);
    }

    int chance(int n) {
        if (spec == null || n < 1 || n > 40 || st.night + n > 999) return no(2);
        act();
        int came = 0;
        for (int i = 0; i < n; i++) {
            if (draw(100) < spec.knock && lodgers() > 0) {
                int l = draw(lodgers());
                if (away(l)) {
                    arriveKept(l);
                    came++;
                }
            }
            night(st);
        }
        return came;
    }

    boolean undo() {
        if (acts.isEmpty()) return nope(4);
        st = acts.removeLast();
        return true;
    }

    boolean seed(int s) {
        if (s < 0) return nope(5);
        seed = s;
        return true;
    }

    int kept(int k, int what) {
        return k >= 0 && k < st.kept.size() && what >= 0 && what <= 2 ? st.kept.get(k)[what] : NONE;
    }

    List<Integer> imageOf(St s) {
        List<Integer> b = new ArrayList<>(List.of(s.night / 256, s.night % 256, s.purse / 65536, s.purse / 256 % 256, s.purse % 256));
        for (int r = 0; r < rooms(); r++) b.add(s.shut.contains(r) ? 1 : 0);
        for (int l = 0; l < lodgers(); l++) {
            b.add(s.where[l]);
            b.add(s.stay[l]);
        }
        b.add(s.bench.size());
        b.addAll(s.bench);
        b.add(check(b));
        return b;
    }

    static int check(List<Integer> b) {
        int c = 227;
        for (int x : b) c = (5 * c + x) % 251;
        return c;
    }

    int image() {
        picture = imageOf(st);
        return picture.size();
    }

    int octet(int k) {
        return k >= 0 && k < picture.size() ? picture.get(k) : NONE;
    }

    boolean on() {
        int[] b = takeTape();
        int at = 5 + rooms() + 2 * lodgers();
        if (spec == null || b.length < at + 2) return nope(5);
        St s = blank();
        s.where = new int[lodgers()];
        s.stay = new int[lodgers()];
        s.night = b[0] * 256 + b[1];
        s.purse = b[2] * 65536 + b[3] * 256 + b[4];
        boolean good = s.night <= 999 && s.purse <= 999999;
        for (int r = 0; r < rooms(); r++) {
            good = good && b[5 + r] <= 1;
            if (b[5 + r] == 1) s.shut.add(r);
        }
        Set<Integer> beds = new HashSet<>(s.shut);
        Set<Integer> benched = new HashSet<>();
        for (int l = 0; l < lodgers(); l++) {
            int w = b[5 + rooms() + 2 * l];
            s.where[l] = w;
            s.stay[l] = b[6 + rooms() + 2 * l];
            if (w == 254) benched.add(l);
            if (w >= 254) good = good && s.stay[l] == 0;
            else good = good && s.stay[l] <= 99 && (w == spec.pairs.get(l)[0] || w == spec.pairs.get(l)[1]) && beds.add(w);
        }
        for (int i = at + 1; i < b.length - 1; i++) s.bench.add(b[i]);
        good = good && b[at] == s.bench.size() && s.bench.size() <= spec.bench && s.bench.size() == benched.size()
            && new HashSet<>(s.bench).equals(benched);
        if (!good || !imageOf(s).equals(Arrays.stream(b).boxed().toList())) return nope(5);
        st = s;
        acts.clear();
        return true;
    }

    int status(int what) {
        return what >= 0 && what < 6 ? refusals[what] : NONE;
    }
}
