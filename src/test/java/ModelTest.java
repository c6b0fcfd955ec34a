import java.util.ArrayList;
import java.util.List;
import java.util.Random;

/** Random texts, acts and questions: the class and the model must answer alike. The rows are always the same ones. */
public final class ModelTest {
    private final Random random;
    private final CuckooLodge x = new CuckooLodge();
    private final Model m = new Model();
    private final List<String> calls = new ArrayList<>();
    private int left = 512;
    private int most;
    private boolean right = true;

    private ModelTest(long seed) {
        random = new Random(seed);
    }

    private int r(int n) {
        return random.nextInt(n);
    }

    private boolean same(String call, long got, long want) {
        left--;
        calls.add(call + " = " + want);
        if (got != want && right) {
            right = false;
            for (String c : calls) System.out.println("  " + c);
            System.out.println("  answered " + got);
        }
        return right;
    }

    private static long n(boolean b) {
        return b ? 1 : 0;
    }

    // ---- texts

    private String word() {
        String[] some = {"a", "b", "ab", "cuckoo", "zz", "q", "ann", "bob", "cid", "dot", "eve", "fay", "gus", "hal", "ida", "jo", "kit", "lu"};
        return some[r(some.length)];
    }

    private String blank() {
        return r(6) == 0 ? "\n" : r(8) == 0 ? "  " : "";
    }

    private String part(String own, int depth) {
        int k = r(depth > 0 ? 12 : 8);
        String[] plain = {"night", "room", "nights", "empty", own, "" + r(5), "" + r(100), "" + r(10000)};
        if (k < 8) return blank() + plain[k] + blank();
        if (k == 8) return "(" + sum(own, depth - 1) + ")";
        if (k == 9) return "min(" + sum(own, depth - 1) + "," + sum(own, depth - 1) + ")";
        if (k == 10) return "max" + blank() + "(" + sum(own, depth - 1) + "," + sum(own, depth - 1) + ")";
        return "if(" + test(own, depth - 1) + "," + sum(own, depth - 1) + "," + sum(own, depth - 1) + ")";
    }

    private String sum(String own, int depth) {
        StringBuilder b = new StringBuilder(part(own, depth));
        for (int i = r(3); i > 0; i--) b.append("+-*/%".charAt(r(5))).append(part(own, depth));
        return b.toString();
    }

    private String test(String own, int depth) {
        StringBuilder b = new StringBuilder(fact(own, depth));
        for (int i = r(5) / 3; i > 0; i--) b.append(r(2) == 0 ? " and " : " or ").append(fact(own, depth));
        return b.toString();
    }

    private String fact(String own, int depth) {
        int k = r(depth > 0 ? 8 : 5);
        if (k == 0) return "all";
        if (k < 5) return sum(own, depth) + "<>=".charAt(r(3)) + sum(own, depth);
        if (k == 5) return "not " + fact(own, depth - 1);
        return "[" + test(own, depth - 1) + "]";
    }

    private String mildTest(String own) {
        String[] some = {"nights<2", "nights>1", "nights>3 or room=1", "night%3=0", "empty<2", own + "<3", "room%2=" + own + "%2",
            "not nights=" + own, "nights>2 and " + own + "<2", "[night+room]%2=1", "nights*room>night"};
        return r(3) == 0 ? test(own, 2) : some[r(some.length)].replace("[night+room]", "(night+room)");
    }

    private String text(int lodgersAtMost) {
        StringBuilder b = new StringBuilder();
        int rooms = 2 + r(r(4) == 0 ? 15 : 5);
        b.append("rooms ").append(rooms).append(";");
        if (r(3) > 0) b.append("bench ").append(r(7)).append(";");
        if (r(2) > 0) b.append("steps ").append(1 + r(r(2) == 0 ? 40 : 6)).append(";");
        if (r(2) > 0) b.append("knock ").append(r(101)).append(";");
        List<String> names = new ArrayList<>();
        int lodgers = r(8) == 0 ? r(3) : lodgersAtMost / 2 + r(lodgersAtMost - lodgersAtMost / 2 + 1);
        for (int i = 0; i < lodgers; i++) {
            String n = word();
            if (names.contains(n)) continue;
            names.add(n);
            int first = r(rooms);
            b.append("lodger ").append(n).append(" has ").append(first).append(" ").append((first + 1 + r(rooms - 1)) % rooms).append(";");
            if (r(5) < 4) b.append("in ").append(n).append(";");
        }
        if (r(5) == 0) b.append("shut ").append(r(rooms)).append(";");
        if (r(3) > 0) b.append("yields ").append(mildTest("step")).append(";").append(blank());
        if (r(3) == 0) b.append("leaves nights>").append(1 + r(9)).append(";");
        else if (r(2) > 0) b.append("leaves ").append(mildTest("bench")).append(";");
        if (r(3) > 0) b.append("rents ").append(sum("first", 2)).append(";");
        return b.toString();
    }

    private String broken(String s) {
        StringBuilder b = new StringBuilder(s);
        for (int i = 1 + r(2); i > 0 && b.length() > 0; i--) {
            int at = r(b.length());
            String[] bits = {";", " ", "(", ")", "[", "]", "not ", "7", "a", "all", "rooms 3;", "bench 9;", "xyz", "+", "<", "\t", "A", "in", "999", " 12345 ",
                "yields all;", "not not not not not not ", "((((((", "if(", "min", "\u00e9", ",", "lodger q has 0 1;", "in q;", "shut 1;"};
            int how = r(4);
            if (how == 0) b.deleteCharAt(at);
            else if (how == 1) b.setLength(at);
            else b.insert(at, bits[r(bits.length)]);
        }
        return b.toString();
    }

    // ---- the tape

    private void feed(int[] bytes) {
        int[] n = new int[5];
        for (int from = 0; from < bytes.length; from += 20) {
            for (int i = 0; i < 5; i++) {
                n[i] = 0;
                for (int j = 0; j < 4; j++) {
                    int at = from + 4 * i + j;
                    n[i] = n[i] << 8 | (at < bytes.length ? bytes[at] : 0);
                }
            }
            same("feed", x.feed(n[0], n[1], n[2], n[3], n[4]), m.feed(n[0], n[1], n[2], n[3], n[4]));
        }
        same("end(" + bytes.length + ")", n(x.end(bytes.length)), n(m.end(bytes.length)));
    }

    private void lodge(String text) {
        int[] bytes = text.chars().limit(1600).toArray();
        feed(bytes);
        same("lodge <" + text + ">", x.lodge(), m.lodge());
        same("fault(0)", x.fault(0), m.fault(0));
        same("fault(1)", x.fault(1), m.fault(1));
    }

    private void meetSome() {
        int rows = r(20) == 0 ? 17 : 1 + r(4);
        int[] bytes = new int[3 * rows + (r(20) == 0 ? 1 : 0)];
        int lodger = m.lodgers() == 0 ? 0 : r(m.lodgers());
        Model.St s = m.st.copy();
        if (m.away(lodger)) m.arrive(s, lodger, 1 + r(8));
        for (int i = 0; i < rows; i++) {
            int n = r(15) == 0 ? 30 + r(2) : r(6);
            int room = m.rooms() == 0 || r(20) == 0 ? r(17) : r(m.rooms());
            Model.St then = m.spec == null ? null : m.after(s, n);
            bytes[3 * i] = n;
            bytes[3 * i + 1] = room;
            bytes[3 * i + 2] = (then == null || r(8) == 0 ? r(18) - 1 : then.sleeper(room)) & 255;
        }
        feed(bytes);
        same("meet", x.meet(), m.meet());
    }

    private void takeImage() {
        List<Integer> b = m.imageOf(m.st);
        for (int i = r(4) == 0 ? 1 + r(2) : 0; i > 0; i--) {
            int at = r(b.size() - 1);
            int[] some = {0, 1, 2, 3, 99, 100, 254, 255, b.get(at) ^ 1};
            b.set(at, some[r(some.length)]);
        }
        if (r(6) == 0) {
            b.set(0, 3);
            b.set(1, 200 + r(35));
        }
        if (r(8) == 0) {
            b.set(2, 15);
            b.set(3, 66);
            b.set(4, r(80));
        }
        if (r(20) == 0) b.add(b.size() - 1, r(10));
        b.remove(b.size() - 1);
        b.add(Model.check(b));
        if (r(20) == 0) b.set(b.size() - 1, r(251));
        feed(b.stream().mapToInt(Integer::intValue).toArray());
        same("on " + b, n(x.on()), n(m.on()));
    }

    // ---- questions and acts

    private void call() {
        int l = r(12) == 0 ? r(20) - 2 : r(Math.max(1, m.lodgers()));
        int room = r(12) == 0 ? r(20) - 2 : r(Math.max(1, m.rooms()));
        int k = r(9) - 2;
        int n = r(10) == 0 ? r(45) - 2 : r(8);
        int set = r(20) == 0 ? random.nextInt() : r(1 << m.lodgers());
        boolean small = m.lodgers() <= most;
        switch (r(40)) {
            case 0: case 1: same("has(" + (k = r(18) - 1) + ")", x.has(k), m.has(k)); break;
            case 2: same("letter(" + l + "," + k + ")", x.letter(l, k), m.letter(l, k)); break;
            case 3: case 4: same("room(" + room + "," + k + ")", x.room(room, k), m.room(room, k)); break;
            case 5: case 6: same("lodger(" + l + "," + k + ")", x.lodger(l, k), m.lodger(l, k)); break;
            case 7: same("bench(" + k + ")", x.bench(k), m.bench(k)); break;
            case 8: case 9: same("chain(" + l + "," + k + ")", x.chain(l, k), m.chain(l, k)); break;
            case 10: same("later(" + room + "," + n + ")", x.later(room, n), m.later(room, n)); break;
            case 11: same("sleeps(" + l + ")", x.sleeps(l), m.sleeps(l)); break;
            case 12: same("purse(" + n + ")", x.purse(n), m.purse(n)); break;
            case 13: if (small) same("most(" + set + ")", x.most(set), m.most(set)); break;
            case 14: same("ways(" + set + ")", x.ways(set), m.ways(set)); break;
            case 15: if (small) same("turned(" + set + ")", x.turned(set), m.turned(set)); break;
            case 16: if (small) same("crowd", x.crowd(), m.crowd()); break;
            case 17: same("clear(" + room + ")", x.clear(room), m.clear(room)); break;
            case 18: same("moves(" + l + ")", x.moves(l), m.moves(l)); break;
            case 19: if (r(3) == 0) same("odds(" + l + ")", x.odds(l), m.odds(l)); break;
            case 20: meetSome(); break;
            case 21: case 22: same("stepped(" + l + "," + (k = r(2) == 0 ? k : r(40)) + ")", x.stepped(l, k), m.stepped(l, k)); break;
            case 23: if (r(2) == 0) same("tells(" + l + "," + k + ")", x.tells(l, k), m.tells(l, k)); break;
            case 24: case 25: case 26: case 27: same("come(" + l + ")", x.come(l), m.come(l)); break;
            case 28: same("go(" + l + ")", n(x.go(l)), n(m.go(l))); break;
            case 29: k = r(5) == 0 ? r(4) - 1 : r(2); same("shut(" + room + "," + k + ")", n(x.shut(room, k)), n(m.shut(room, k))); break;
            case 30: same("nights(" + n + ")", x.nights(n), m.nights(n)); break;
            case 31: case 32: same("chance(" + n + ")", x.chance(n), m.chance(n)); break;
            case 33: case 34: same("undo", n(x.undo()), n(m.undo())); break;
            case 35: k = r(3) == 0 ? random.nextInt() : r(1000); same("seed(" + k + ")", n(x.seed(k)), n(m.seed(k))); break;
            case 36: n = r(42) - 1; k = r(5) - 1; same("kept(" + n + "," + k + ")", x.kept(n, k), m.kept(n, k)); break;
            case 37: same("image", x.image(), m.image()); break;
            case 38: n = r(64) - 1; same("octet(" + n + ")", x.octet(n), m.octet(n)); break;
            default:
                if (r(2) == 0) takeImage();
                else same("status(" + k + ")", x.status(k), m.status(k));
                break;
        }
    }

    private void whole() {
        for (int k = 0; k < 15; k++) same("has(" + k + ")", x.has(k), m.has(k));
        for (int k = 0; k < 6; k++) same("status(" + k + ")", x.status(k), m.status(k));
        same("image", x.image(), m.image());
        for (int k = 0; k < m.picture.size(); k++) same("octet(" + k + ")", x.octet(k), m.octet(k));
        for (int k = 0; k < m.st.kept.size(); k++) same("kept(" + k + ",1)", x.kept(k, 1), m.kept(k, 1));
    }

    private boolean play(int lodgersAtMost, int setsAtMost) {
        most = setsAtMost;
        if (r(10) == 0) for (int i = 0; i < 10; i++) call();
        while (left > 240 && right) {
            String text = text(lodgersAtMost);
            lodge(r(3) == 0 ? broken(text) : text);
            for (int i = 0; i < 60 && left > 240 && right; i++) call();
        }
        whole();
        return right;
    }

    private boolean playFaults() {
        while (left > 100 && right) lodge(broken(text(6)));
        return right;
    }

    public static void main(String[] args) {
        int wrong = 0;
        int factor = args.length > 0 ? Integer.parseInt(args[0]) : 1;
        for (int i = 0; i < 500 * factor && wrong < 3; i++) {
            if (!new ModelTest(i).play(7, 7)) wrong++;
            if (i % 5 == 0 && !new ModelTest(1000000 + i).play(16, 9)) wrong++;
            if (i % 100 == 0 && !new ModelTest(2000000 + i).play(16, 16)) wrong++;
            if (!new ModelTest(3000000 + i).playFaults()) wrong++;
        }
        System.out.println(wrong == 0 ? "the model answers alike" : wrong + " runs differ");
        if (wrong != 0) System.exit(1);
    }
}
