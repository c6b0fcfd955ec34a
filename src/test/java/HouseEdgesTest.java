import java.util.Arrays;
import java.util.HashSet;
import java.util.Set;

/** What the document says of who is where (Terms II) and of what is asked (Terms III), sentence by sentence. */
public final class HouseEdgesTest {
    private static final int NONE = CuckooLodge.NONE;
    private static final Sentences DOC = new Sentences();
    // Whoever of three comes makes all go round: a, b, c, a, b, c .. are put out, of room 0, 1, 0, 1 ..
    private static final String ROUND = "rooms 2;lodger a has 0 1;lodger b has 1 0;lodger c has 0 1;in a;in b;";
    // a, b and c in rooms 0, 1, 2; room 3 is free; d, who is away, makes each go one room on.
    private static final String ROW = "rooms 4;lodger a has 0 1;lodger b has 1 2;lodger c has 2 3;lodger d has 0 1;in a;in b;in c;";
    // Two in bed who never yield, and three more for their rooms.
    private static final String FULL = "rooms 2;lodger a has 0 1;lodger b has 1 0;lodger c has 0 1;lodger d has 1 0;lodger e has 0 1;in a;in b;yields not all;";

    private static void says(String words, Runnable test) {
        DOC.says(words, test);
    }

    private static void due(String call, long got, long want) {
        Calls.due(call, got, want);
    }

    private static void due(String call, boolean got, boolean want) {
        Calls.due(call, got, want);
    }

    /** Who sleeps in the rooms, one behind the other. */
    private static void dueRooms(String when, CuckooLodge x, int... sleepers) {
        for (int r = 0; r < sleepers.length; r++) due(when + " room(" + r + ", 0)", x.room(r, 0), sleepers[r]);
    }

    private static void dueBench(String when, CuckooLodge x, int... lodgers) {
        due(when + " has(3)", x.has(3), lodgers.length);
        for (int k = 0; k < lodgers.length; k++) due(when + " bench(" + k + ")", x.bench(k), lodgers[k]);
    }

    private static void dueImage(String when, CuckooLodge x, int... want) {
        int[] got = Calls.imageOf(x);
        due(when + " image " + Arrays.toString(got), Arrays.equals(got, Calls.checked(want)), true);
    }

    private static void on(CuckooLodge x, int... bytes) {
        due("on " + Arrays.toString(bytes), Calls.on(x, Calls.checked(bytes)), true);
    }

    private static void whoIsWhere() {
        says("A LODGER is a SLEEPER in one of his ROOMS, on the BENCH, or AWAY;", () -> {
            CuckooLodge x = Calls.of("rooms 3;bench 1;steps 2;knock 90;lodger a has 0 1;lodger b has 1 2;lodger c has 2 0;lodger d has 0 2;leaves nights>3;");
            for (int n = 0; n < 20; n++) {
                x.chance(1);
                for (int l = 0; l < 4; l++) {
                    int room = x.lodger(l, 2);
                    int states = (room == NONE ? 0 : 1) + (x.lodger(l, 4) == NONE ? 0 : 1) + (x.chain(l, NONE) == NONE ? 0 : 1);
                    due("in one state alone", states, 1);
                    due("in one of his rooms", room == NONE || room == x.lodger(l, 0) || room == x.lodger(l, 1), true);
                }
            }
        });
        says("in a ROOM there is one SLEEPER at most.", () -> {
            CuckooLodge x = Calls.of("rooms 3;bench 1;steps 2;knock 90;lodger a has 0 1;lodger b has 1 2;lodger c has 2 0;lodger d has 0 2;leaves nights>3;");
            for (int n = 0; n < 25; n++) {
                x.chance(1);
                Set<Integer> rooms = new HashSet<>();
                for (int l = 0; l < 4; l++) {
                    int room = x.lodger(l, 2);
                    due("nobody else is there", room == NONE || rooms.add(room), true);
                    due("he is its sleeper", room == NONE || x.room(room, 0) == l, true);
                }
                due("as many as there are", x.has(2), rooms.size());
            }
        });
        says("A ROOM is FREE, if nobody is in it and it is not SHUT.", () -> {
            CuckooLodge x = Calls.of("rooms 3;lodger a has 0 1;in a;shut 2;");
            due("one with somebody", x.room(0, 2), 0);
            due("one with nobody", x.room(1, 2), 1);
            due("one that is shut", x.room(2, 2), 0);
            x.go(0);
            due("behind him", x.room(0, 2), 1);
        });
        says("EMPTY are all FREE ROOMS.", () -> {
            CuckooLodge x = Calls.of("rooms 4;lodger a has 0 1;in a;shut 2;");
            due("two", x.has(5), 2);
            x.shut(2, 0);
            due("one opened", x.has(5), 3);
            x.go(0);
            due("one left", x.has(5), 4);
        });
    }

    private static void coming() {
        says("To COME (one who is AWAY): if his FIRST ROOM is FREE, he sleeps there,", () -> {
            CuckooLodge x = Calls.of("rooms 3;lodger a has 2 1;");
            due("nobody is put out", x.come(0), 0);
            dueRooms("", x, NONE, NONE, 0);
            due("one who sleeps", x.come(0), NONE);
        });
        says("else in his OTHER one, if that is;", () -> {
            CuckooLodge x = Calls.of("rooms 3;lodger a has 0 1;lodger b has 0 2;lodger c has 1 2;in a;");
            due("the first one is taken", x.come(1), 0);
            dueRooms("", x, 0, NONE, 1);
            x.shut(1, 1);
            x.go(1);
            due("the first one is shut", x.come(2), 0);
            dueRooms("shut", x, 0, NONE, 2);
        });
        says("else in the first of these two, not SHUT, whose SLEEPER YIELDS: that one is PUT OUT.", () -> {
            CuckooLodge x = Calls.of(ROUND + "steps 1;");
            due("both would", x.chain(2, 0), 0);
            x.come(2);
            dueRooms("by the first", x, 2, 1);
            x = Calls.of(ROUND + "steps 1;yields room=1;");
            due("the other one would", x.come(2), 1);
            dueRooms("by the other", x, 0, 2);
            x = Calls.of(FULL);
            due("neither would", x.come(2), 0);
            dueRooms("by neither", x, 0, 1);
            x = Calls.of("rooms 3;lodger a has 1 2;lodger b has 0 1;lodger c has 1 0;in a;shut 0;");
            due("the first one is shut", x.come(1), 1);
            dueRooms("shut", x, NONE, 1, 0);
            x = Calls.of("rooms 3;lodger a has 1 2;lodger c has 1 0;in a;shut 0;yields not all;");
            due("the other one is shut", x.come(1), 0);
            dueBench("shut", x, 1);
        });
        says("One who is PUT OUT of a ROOM goes to the other one of his two: if it is FREE, he sleeps there;", () -> {
            CuckooLodge x = Calls.of("rooms 3;lodger a has 0 1;lodger b has 0 2;in a;shut 2;");
            due("from his first one", x.come(1), 1);
            dueRooms("to his other one", x, 1, 0, NONE);
            x = Calls.of("rooms 3;lodger a has 0 1;lodger b has 1 2;in a;shut 0;shut 2;");
            x.shut(0, 0);
            due("from his other one", x.come(1), 1);
            dueRooms("to his first one", x, 0, 1, NONE);
        });
        says("else, if it is not SHUT and its SLEEPER YIELDS, he sleeps there, and that one is PUT OUT; and so on.", () -> {
            CuckooLodge x = Calls.of(ROW);
            due("three", x.come(3), 3);
            dueRooms("each one room on", x, 3, 0, 1, 2);
            x = Calls.of(ROW);
            x.shut(3, 1);
            due("the last one's other room is shut", x.come(3), 3);
            dueRooms("shut", x, 3, 0, 1, NONE);
            dueBench("shut", x, 2);
            x = Calls.of(ROW + "yields room<2;");
            due("one who does not yield", x.come(3), 2);
            dueRooms("c stays", x, 3, 0, 2, NONE);
            dueBench("c stays", x, 1);
        });
        says("A SLEEPER YIELDS, if less were PUT OUT in this COMING than steps tell,", () -> {
            int[][] rooms = {{2, 1}, {2, 0}, {1, 0}, {1, 2}, {0, 2}, {0, 1}};
            for (int steps = 1; steps <= 40; steps++) {
                CuckooLodge x = Calls.of(ROUND + "steps " + steps + ";");
                due("steps " + steps, x.come(2), steps);
                dueRooms("steps " + steps, x, rooms[(steps - 1) % 6]);
                dueBench("steps " + steps, x, (steps - 1) % 3);
            }
        });
        says("and the TEST of yields holds for him (without it: always).", () -> {
            due("by the test", Calls.of(ROUND + "yields room+step*2<4;").come(2), 2);
            due("never", Calls.of(ROUND + "yields not all;").come(2), 0);
            due("always", Calls.of(ROUND + "yields all;").come(2), 10);
            due("without it", Calls.of(ROUND).come(2), 10);
        });
        says("Whoever is left without a bed goes to the BENCH, behind all on it, if there is a place,", () -> {
            CuckooLodge x = Calls.of(FULL + "bench 3;");
            x.come(4);
            x.come(2);
            x.come(3);
            dueBench("who came", x, 4, 2, 3);
            x = Calls.of("rooms 2;bench 2;steps 1;lodger a has 0 1;lodger b has 1 0;lodger c has 0 1;lodger d has 1 0;in a;in b;");
            x.come(3);
            x.come(2);
            dueBench("who was put out", x, 1, 0);
            x = Calls.of("rooms 2;bench 6;lodger a has 0 1;lodger b has 0 1;lodger c has 0 1;lodger d has 0 1;lodger e has 0 1;lodger f has 0 1;"
                + "lodger g has 0 1;lodger h has 0 1;in a;in b;in c;in d;in e;in f;in g;in h;yields not all;");
            dueBench("six places", x, 2, 3, 4, 5, 6, 7);
        });
        says("else AWAY.", () -> {
            CuckooLodge x = Calls.of(FULL);
            x.come(2);
            x.come(3);
            dueBench("one place", x, 2);
            due("one place: away", x.has(4), 2);
            due("one place: he can come again", x.come(3), 0);
            x = Calls.of(FULL + "bench 0;");
            x.come(2);
            dueBench("no place", x);
            due("no place: away", x.has(4), 3);
            x = Calls.of(ROUND + "bench 0;steps 1;");
            x.come(2);
            due("put out: away", x.chain(0, NONE), 1);
        });
        says("Who comes into a ROOM has been in it for 0 NIGHTS.", () -> {
            CuckooLodge x = Calls.of(ROW + "yields room<2;");
            x.nights(3);
            x.come(3);
            dueImage("who came, who was put out, who stayed", x, 0, 3, 0, 0, 9, 0, 0, 0, 0, 1, 0, 254, 0, 2, 3, 0, 0, 1, 1);
            x.shut(3, 1);
            x.go(2);
            x.nights(1);
            due("one from the bench", x.lodger(1, 2), 2);
            due("one from the bench has been there for his first night", x.lodger(1, 3), 1);
        });
    }

    private static void nightByNight() {
        says("A NIGHT: FIRST one by one those on the BENCH, from the first on: if his FIRST ROOM is FREE, he sleeps there,", () -> {
            CuckooLodge x = Calls.of(FULL + "bench 3;");
            x.come(4);
            x.come(2);
            x.come(3);
            x.go(0);
            due("he pays, too", x.nights(1), 2);
            dueRooms("the first one", x, 4, 1);
            dueBench("the others", x, 2, 3);
            x.go(4);
            x.go(1);
            x.nights(1);
            dueRooms("both at once", x, 2, 3);
            dueBench("nobody", x);
        });
        says("else in his OTHER one, if that is.", () -> {
            CuckooLodge x = Calls.of(FULL);
            x.come(2);
            x.go(1);
            x.nights(1);
            dueRooms("the other one", x, 0, 2);
            x = Calls.of(FULL);
            x.come(2);
            x.go(1);
            x.shut(1, 1);
            x.nights(1);
            dueBench("one that is shut", x, 2);
            x = Calls.of("rooms 3;bench 2;lodger a has 0 1;lodger b has 1 0;lodger c has 0 1;lodger d has 2 0;in a;in b;in c;shut 2;in d;yields not all;");
            x.shut(2, 0);
            x.nights(1);
            dueRooms("one behind another who finds none", x, 0, 1, 3);
            dueBench("one behind another who finds none", x, 2);
        });
        says("THEN ROOM by ROOM the SLEEPER pays as much into the purse as the SUM of rents tells (without it: 1),", () -> {
            CuckooLodge x = Calls.of(ROW + "rents 10+room*room;");
            due("10 and 11 and 14", x.nights(1), 35);
            due("in the purse", x.has(8), 35);
            due("behind two nights", x.purse(1), 70);
            x = Calls.of(ROW);
            due("1 each", x.nights(1), 3);
            due("1 each, in the purse", x.has(8), 3);
            x = Calls.of(ROW + "leaves all;rents 7;");
            due("those who leave have paid", x.nights(2), 21);
        });
        says("0 .. 99 (below is 0, above 99;", () -> {
            int[][] rows = {{0, 0}, {1, 1}, {98, 98}, {99, 99}, {100, 99}, {9999, 99}};
            for (int[] row : rows) due("rents " + row[0], Calls.of(ROUND + "rents " + row[0] + ";").nights(1), 2 * row[1]);
            CuckooLodge x = Calls.of(ROUND + "rents room*9-1;");
            due("0 and 8", x.nights(1), 8);
            due("0 and 8 in the purse", x.has(8), 8);
        });
        says("999999 in the purse at most).", () -> {
            CuckooLodge x = Calls.of("rooms 2;lodger a has 0 1;in a;rents 50;");
            on(x, 0, 0, 15, 66, 13, 0, 0, 0, 0, 0);
            due("999949", x.has(8), 999949);
            due("just 999999", x.purse(1), 999999);
            due("no more", x.purse(2), 999999);
            x.nights(2);
            due("it is so", x.has(8), 999999);
        });
        says("THEN each SLEEPER has been in his ROOM for one NIGHT more (99 at most).", () -> {
            CuckooLodge x = Calls.of(ROUND);
            on(x, 0, 0, 0, 0, 0, 0, 0, 0, 97, 1, 0, 255, 0, 0);
            int[] nights = {98, 99, 99};
            for (int k = 0; k < 3; k++) {
                x.nights(1);
                due("a", x.lodger(0, 3), nights[k]);
                due("b", x.lodger(1, 3), k + 1);
                due("c, who is away", x.lodger(2, 3), 0);
            }
        });
        says("THEN LODGER by LODGER each SLEEPER for whom the TEST of leaves holds by what is so then", () -> {
            due("his nights are one more", Calls.of(ROUND + "leaves nights>0;").later(0, 1), NONE);
            due("the night is not", Calls.of(ROUND + "leaves night>0;").later(0, 1), 0);
            CuckooLodge x = Calls.of(ROUND + "leaves empty=0;");
            due("a leaves", x.later(0, 1), NONE);
            due("and then b need not", x.later(1, 1), 1);
            x = Calls.of("rooms 2;lodger a has 1 0;lodger b has 0 1;in a;in b;leaves empty=0;");
            due("by lodgers, not by rooms", x.later(0, 1), 1);
            x = Calls.of(FULL + "in c;leaves bench=0 and empty=0;");
            x.go(0);
            x.nights(1);
            dueRooms("c came from the bench; then b leaves, who is ahead of him", x, 2, NONE);
            x = Calls.of(FULL + "in c;leaves all;");
            x.nights(1);
            dueBench("those on the bench do not leave", x, 2);
        });
        says("(without it: never) goes AWAY.", () -> {
            CuckooLodge x = Calls.of(ROUND);
            x.nights(40);
            due("without it", x.has(2), 2);
            x = Calls.of(ROUND + "leaves room=0;");
            x.nights(1);
            due("away", x.has(4), 2);
            due("he can come", x.chain(0, NONE), 0);
        });
        says("The NIGHT is one more (999 at most).", () -> {
            CuckooLodge x = Calls.of("rooms 2;");
            x.nights(1);
            due("one", x.has(7), 1);
            on(x, 3, 230, 0, 0, 0, 0, 0, 0);
            due("998", x.has(7), 998);
            due("one more", x.nights(1), 0);
            due("999", x.has(7), 999);
            due("no more", x.nights(1), NONE);
            due("still 999", x.has(7), 999);
        });
    }

    private static void bySeed() {
        // From seed 42 on a DRAW of 100 is 0, from 1 on 18, from 119 on 99.
        says("BY THE SEED a NIGHT begins with a DRAW of 100: below knock,", () -> {
            int[][] rows = {{42, 0, 0}, {42, 1, 1}, {1, 18, 0}, {1, 19, 1}, {119, 99, 0}, {119, 100, 1}};
            for (int[] row : rows) {
                CuckooLodge x = Calls.of("rooms 2;lodger a has 0 1;knock " + row[1] + ";");
                x.seed(row[0]);
                due("seed " + row[0] + " knock " + row[1], x.chance(1), row[2]);
            }
            // Once c knocks, he has the room that d, who is on the bench, would have had.
            CuckooLodge x = Calls.of(FULL + "in d;knock 100;");
            x.go(0);
            for (int k = 0; k < 50 && x.lodger(2, 2) == NONE; k++) {
                x.chance(1);
                if (x.lodger(2, 2) == NONE) x.undo();
            }
            dueRooms("it begins with it", x, 2, 1);
            dueBench("it begins with it", x, 3);
        });
        says("if there are LODGERS, a DRAW of these:", () -> {
            CuckooLodge x = Calls.of("rooms 2;knock 100;");
            due("none to come", x.chance(1), 0);
            due("one draw alone", x.has(14), 1103527590);
            x = Calls.of("rooms 2;knock 100;lodger a has 0 1;");
            due("one", x.chance(1), 1);
            due("two draws", x.has(14), 377401575);
            x = Calls.of("rooms 2;knock 18;lodger a has 0 1;");
            due("no knock", x.chance(1), 0);
            due("no knock, one draw", x.has(14), 1103527590);
            // From 377401575 on: of two the second, of three the first.
            x = Calls.of("rooms 2;knock 100;lodger a has 0 1;lodger b has 0 1;");
            x.chance(1);
            due("of two", x.lodger(1, 2), 0);
            x = Calls.of("rooms 2;knock 100;lodger a has 0 1;lodger b has 0 1;lodger c has 0 1;");
            x.chance(1);
            due("of three", x.lodger(0, 2), 0);
        });
        says("if he is AWAY, he COMES.", () -> {
            CuckooLodge x = Calls.of("rooms 2;knock 100;lodger a has 0 1;in a;");
            due("a sleeper", x.chance(1), 0);
            due("he stays", x.lodger(0, 3), 1);
            x = Calls.of("rooms 2;knock 100;lodger a has 0 1;shut 0;shut 1;in a;");
            due("one on the bench", x.chance(1), 0);
            dueBench("he stays", x, 0);
            x = Calls.of("rooms 2;knock 100;bench 0;lodger a has 0 1;shut 0;shut 1;");
            due("one who is away, each night anew", x.chance(7), 7);
            x = Calls.of("rooms 2;knock 100;lodger a has 0 1;rents 7;");
            x.chance(3);
            due("then the night is as any other: who came pays", x.has(8), 21);
            due("and stays", x.lodger(0, 3), 3);
        });
    }

    private static void keptAndActs() {
        says("KEPT is each that is PUT OUT: NIGHT, LODGER, the ROOM", () -> {
            CuckooLodge x = Calls.of(ROW);
            x.nights(5);
            x.come(3);
            int[][] rows = {{5, 0, 0}, {5, 1, 1}, {5, 2, 2}};
            due("three", x.has(11), 3);
            for (int k = 0; k < 3; k++) {
                for (int what = 0; what < 3; what++) due("kept(" + k + ", " + what + ")", x.kept(k, what), rows[k][what]);
            }
            x.go(3);
            due("not one who goes", x.has(11), 3);
            x = Calls.of(ROUND + "leaves all;");
            x.nights(1);
            due("nor one who leaves", x.has(11), 0);
            x = Calls.of(FULL);
            x.come(2);
            due("nor one who came to the bench", x.has(11), 0);
            x = Calls.of("rooms 2;steps 1;knock 100;lodger a has 0 1;lodger b has 0 1;in a;shut 1;");
            x.chance(1);
            due("by the seed, too", x.has(11), 1);
            due("by the seed: a", x.kept(0, 1), 0);
        });
        says("(not those of the text;", () -> due("none", Calls.of(ROUND + "in c;").has(11), 0));
        says("the last 40 are told).", () -> {
            CuckooLodge x = Calls.of(ROUND + "bench 0;steps 39;");
            due("39", x.come(2), 39);
            due("39 told", x.has(11), 39);
            x.nights(1);
            // The 39th is c again; one more step each makes 40, then 41.
            CuckooLodge y = Calls.of(ROUND + "bench 0;steps 40;");
            due("40", y.come(2), 40);
            due("40 told", y.has(11), 40);
            due("the oldest", y.kept(0, 1), 0);
            y.nights(1);
            due("40 more", y.come(0), 40);
            due("still 40", y.has(11), 40);
            due("all of the later ones", y.kept(0, 0) + y.kept(39, 0), 2);
            due("39 more", x.come(2), 39);
            due("40 of 78", x.has(11), 40);
            due("the last of the older ones", x.kept(0, 0), 0);
            due("that is c", x.kept(0, 1), 2);
            due("then the later ones", x.kept(1, 0), 1);
        });
        says("ACTS: one who is AWAY COMES; one goes AWAY; a ROOM that is FREE is SHUT, one that is SHUT is opened; NIGHTS, by the seed.", () -> {
            CuckooLodge x = Calls.of("rooms 3;lodger a has 0 1;knock 50;");
            x.come(0);
            due("come", x.has(13), 1);
            x.shut(2, 1);
            due("shut", x.has(13), 2);
            x.shut(2, 0);
            due("opened", x.has(13), 3);
            x.nights(3);
            due("nights", x.has(13), 4);
            x.chance(3);
            due("by the seed", x.has(13), 5);
            x.go(0);
            due("go", x.has(13), 6);
            x.seed(3);
            x.image();
            x.later(0, 3);
            x.chain(0, NONE);
            Calls.meet(x, 0, 0, 0);
            due("nothing else", x.has(13), 6);
        });
        says("The last 20 can be undone.", () -> {
            CuckooLodge x = Calls.of("rooms 2;");
            for (int k = 1; k <= 20; k++) {
                x.nights(1);
                due("so far", x.has(13), k);
            }
            x.nights(1);
            due("no more than 20", x.has(13), 20);
            for (int k = 20; k >= 1; k--) {
                due("undo", x.undo(), true);
                due("night", x.has(7), k);
            }
            due("not the first one", x.undo(), false);
            due("night 1 stays", x.has(7), 1);
        });
        says("A DRAW of m: x (the seed) becomes (1103515245 x + 12345) mod 2 to the 31;", () -> {
            int[][] rows = {{0, 12345, 1406932606, 654583775}, {1, 1103527590, 377401575, 662824084}, {Integer.MAX_VALUE, 1043980748, 288979989, 646343466}};
            for (int[] row : rows) {
                CuckooLodge x = Calls.of("rooms 2;");
                x.seed(row[0]);
                for (int k = 1; k < 4; k++) {
                    x.chance(1);
                    due("seed " + row[0] + " draw " + k, x.has(14), row[k]);
                }
            }
        });
        says("floor(x / 64) mod m.", () -> {
            // Of 100 these are 92, 18, 12, 38, 57, 76 and 99.
            int[][] rows = {{0, 92}, {1, 18}, {2, 12}, {3, 38}, {5, 57}, {7, 76}, {Integer.MAX_VALUE, 99}};
            for (int[] row : rows) {
                for (int more = 0; more < 2; more++) {
                    CuckooLodge x = Calls.of("rooms 2;lodger a has 0 1;knock " + (row[1] + more) + ";");
                    x.seed(row[0]);
                    due("seed " + row[0] + " knock " + (row[1] + more), x.chance(1), more);
                }
            }
        });
    }

    private static void ahead() {
        says("AHEAD are NIGHTS as they come from now on without DRAWS", () -> {
            CuckooLodge x = Calls.of("rooms 2;lodger a has 0 1;lodger b has 1 0;in b;knock 100;leaves nights>1;");
            due("nobody knocks", x.later(0, 1), NONE);
            due("who is there stays", x.later(1, 1), 1);
            due("and leaves", x.later(1, 2), NONE);
            due("the seed stays", x.has(14), 1);
            x.nights(1);
            due("from now on", x.later(1, 1), NONE);
        });
        says("(40 at most, not beyond NIGHT 999).", () -> {
            CuckooLodge x = Calls.of("rooms 2;lodger a has 0 1;in a;");
            due("40", x.later(0, 40) * 1000 + x.purse(40), 40);
            due("41", x.later(0, 41), NONE);
            due("41, the purse", x.purse(41), NONE);
            on(x, 3, 222, 0, 0, 0, 0, 0, 0, 0, 0);
            due("from 990 to 999", x.later(0, 9) * 1000 + x.purse(9), 9);
            due("beyond", x.later(0, 10), NONE);
            due("beyond, the purse", x.purse(10), NONE);
        });
        says("A CHAIN of a LODGER who is AWAY are those that would be PUT OUT, if he CAME now, one behind the other.", () -> {
            CuckooLodge x = Calls.of(ROW);
            due("three", x.chain(3, NONE), 3);
            for (int k = 0; k < 3; k++) due("chain(3, " + k + ")", x.chain(3, k), k);
            dueRooms("nothing happened", x, 0, 1, 2, NONE);
            due("nothing is kept", x.has(11), 0);
            x.go(1);
            due("now one", x.chain(3, NONE), 0);
            due("he would have room 1", x.come(3), 0);
        });
    }

    private static void together() {
        says("LODGERS can SLEEP TOGETHER, if each can have one of his ROOMS that is not SHUT, no two the same one", () -> {
            CuckooLodge x = Calls.of("rooms 4;lodger a has 0 1;lodger b has 0 1;lodger c has 1 0;lodger d has 2 3;lodger e has 1 2;");
            due("two for two rooms", x.most(3), 2);
            due("three for two rooms", x.most(7), 2);
            due("all for four rooms", x.most(31), 4);
            due("e makes way", x.most(1 + 2 + 8 + 16), 4);
            x.shut(3, 1);
            due("with one shut", x.most(1 + 2 + 8 + 16), 3);
            x.shut(2, 1);
            due("d has no room at all", x.most(8), 0);
            x.shut(1, 1);
            x.shut(0, 1);
            due("all are shut", x.most(31), 0);
        });
        says("(whoever is where now).", () -> {
            CuckooLodge x = Calls.of(ROUND + "in c;");
            due("those on the bench, too", x.most(5), 2);
            x = Calls.of("rooms 3;lodger a has 0 1;lodger b has 1 2;lodger c has 0 1;in a;in b;");
            due("a might be in 1, b in 2", x.ways(7), 2);
            x.go(0);
            due("those who are away, too", x.ways(7), 2);
        });
        says("TURNED AWAY of a set are the fewest without whom the others can SLEEP TOGETHER;", () -> {
            CuckooLodge x = Calls.of("rooms 4;lodger a has 2 3;lodger b has 0 1;lodger c has 0 1;lodger d has 0 1;lodger e has 0 1;");
            due("nobody", x.turned(7), 0);
            due("one of three", Integer.bitCount(x.turned(15)), 1);
            due("two of four", Integer.bitCount(x.turned(31)), 2);
        });
        says("of like ones the least bits.", () -> {
            CuckooLodge x = Calls.of("rooms 4;lodger a has 2 3;lodger b has 0 1;lodger c has 0 1;lodger d has 0 1;lodger e has 0 1;");
            due("b, not c or d", x.turned(15), 2);
            due("b and c", x.turned(31), 6);
            due("c and not b, who is not of the set", x.turned(28), 4);
            // Without a and b there are three for rooms 1 and 2; the least bits are a's and c's.
            x = Calls.of("rooms 3;lodger a has 0 1;lodger b has 0 1;lodger c has 1 2;lodger d has 1 2;lodger e has 1 2;");
            due("not the two least", x.turned(31), 5);
        });
        says("A CROWD are the fewest LODGERS who cannot SLEEP TOGETHER;", () -> {
            CuckooLodge x = Calls.of("rooms 8;lodger a has 0 1;lodger b has 1 2;lodger c has 2 0;lodger d has 0 1;lodger e has 4 5;lodger f has 4 5;lodger g has 5 4;");
            due("three, though four stand ahead", x.crowd(), 16 + 32 + 64);
            x.shut(7, 1);
            x.shut(0, 1);
            due("one room less: a and d for room 1", x.crowd(), 1 + 8);
            x.shut(4, 1);
            x.shut(5, 1);
            due("one without a room", x.crowd(), 16);
            // One too many in all, so that there is one crowd alone; a and f are not of it.
            x = Calls.of("rooms 6;lodger a has 3 4;lodger b has 0 1;lodger c has 1 2;lodger d has 2 0;lodger e has 0 2;lodger f has 4 5;");
            due("four for three rooms", x.crowd(), 2 + 4 + 8 + 16);
            x.shut(5, 1);
            x.shut(4, 1);
            due("f has no room", x.crowd(), 32);
            x.shut(5, 0);
            due("again the four", x.crowd(), 2 + 4 + 8 + 16);
            // Twice five for four rooms, where a ties two ends that nobody else ties.
            x = Calls.of("rooms 8;lodger a has 2 3;lodger b has 0 1;lodger c has 1 0;lodger d has 0 2;lodger e has 3 1;"
                + "lodger f has 6 7;lodger g has 4 5;lodger h has 5 4;lodger i has 4 6;lodger j has 7 5;");
            due("five for four rooms", x.crowd(), 31);
            x.shut(2, 1);
            due("three for two rooms", x.crowd(), 2 + 4 + 8);
        });
        says("of like ones the least bits.", () -> {
            CuckooLodge x = Calls.of("rooms 4;lodger a has 0 1;lodger b has 2 3;lodger c has 2 3;lodger d has 0 1;lodger e has 2 3;lodger f has 0 1;");
            due("b, c, e; not a, d, f", x.crowd(), 2 + 4 + 16);
            x = Calls.of("rooms 2;lodger a has 0 1;lodger b has 0 1;lodger c has 0 1;lodger d has 0 1;lodger e has 0 1;");
            due("the first three", x.crowd(), 7);
            x.shut(0, 1);
            due("the first two", x.crowd(), 3);
            x.shut(1, 1);
            due("the first", x.crowd(), 1);
        });
    }

    private static void makingWay() {
        says("To CLEAR a ROOM (not SHUT) are the fewest SLEEPERS who must sleep in the other one of their ROOMS, and nobody else anywhere else than now, so that it is FREE.", () -> {
            CuckooLodge x = Calls.of(ROW);
            for (int room = 0; room < 4; room++) due("clear(" + room + ")", x.clear(room), 3 - room);
            x.shut(3, 1);
            for (int room = 0; room < 4; room++) due("with 3 shut: clear(" + room + ")", x.clear(room), NONE);
            x = Calls.of(ROUND);
            due("two in each other's way", x.clear(0), NONE);
            x = Calls.of("rooms 4;lodger a has 0 1;lodger b has 1 2;lodger c has 2 1;in a;in b;in c;");
            due("behind him two in each other's way", x.clear(0), NONE);
            due("a free one besides does not help", x.clear(1), NONE);
            x = Calls.of("rooms 2;lodger a has 0 1;lodger b has 1 0;in a;in b;");
            x.go(1);
            due("one", x.clear(0), 1);
            due("nobody", x.clear(1), 0);
        });
        says("To MOVE for a LODGER who is no SLEEPER are the fewest SLEEPERS who must sleep in the other one of their ROOMS, so that he can sleep in one of his, too.", () -> {
            CuckooLodge x = Calls.of(ROW);
            due("by his other room two, by his first one three", x.moves(3), 2);
            x = Calls.of("rooms 4;lodger a has 0 1;lodger b has 1 2;lodger c has 2 3;lodger d has 1 0;in a;in b;in c;");
            due("by his first room two, by his other one three", x.moves(3), 2);
            x.go(1);
            due("nobody", x.moves(3), 0);
            x = Calls.of("rooms 3;lodger a has 0 1;lodger b has 1 0;lodger c has 2 0;lodger d has 0 2;in a;in b;");
            due("by his first one alone", x.moves(2), 0);
            due("by his other one alone", x.moves(3), 0);
            x.shut(2, 1);
            due("by neither", x.moves(2), NONE);
            x = Calls.of("rooms 3;lodger a has 0 2;lodger b has 1 0;lodger c has 0 1;in a;in b;in c;yields not all;");
            due("one on the bench", x.moves(2), 1);
        });
        says("ODDS of a LODGER are by how many of all rows of a number below 100, a LODGER he is a SLEEPER behind the next NIGHT by the seed.", () -> {
            CuckooLodge x = Calls.of("rooms 2;steps 1;bench 0;knock 30;lodger a has 0 1;lodger b has 1 0;lodger c has 0 1;lodger d has 1 0;in a;in b;");
            due("a, unless c knocks", x.odds(0), 370);
            due("b, unless d knocks", x.odds(1), 370);
            due("c, if he knocks", x.odds(2), 30);
            due("d, if he knocks", x.odds(3), 30);
            x = Calls.of(FULL + "in c;");
            due("from the bench not yet", x.odds(2), 0);
            x.go(0);
            due("from the bench", x.odds(2), 500);
            due("behind the night those who leave are gone", Calls.of(ROUND + "leaves room=0;").odds(0), 0);
            due("one who knocks and leaves", Calls.of("rooms 2;knock 100;lodger a has 0 1;leaves all;").odds(0), 0);
        });
    }

    private static void met() {
        says("MET are rows of NIGHTS AHEAD (0 .. 30), a ROOM,", () -> {
            CuckooLodge x = Calls.of(ROUND + "leaves night=29;");
            due("0 nights", Calls.meet(x, 0, 0, 2), 1);
            due("now c is in 0", x.stepped(2, 0), 1);
            due("30 nights, the last room", Calls.meet(x, 30, 1, 255), 1);
            due("they left in night 29", x.stepped(2, NONE), 40);
            due("29 nights", Calls.meet(x, 29, 1, 255), 1);
            due("they are there", x.stepped(2, NONE), 0);
            due("31 nights", Calls.meet(x, 31, 0, 2), NONE);
            due("no room", Calls.meet(x, 0, 2, 2), NONE);
        });
        says("its SLEEPER behind these (255: nobody),", () -> {
            CuckooLodge x = Calls.of(ROUND + "leaves room=0;");
            Calls.meet(x, 1, 0, 255);
            due("nobody", x.stepped(2, NONE), 40);
            Calls.meet(x, 0, 0, 255);
            due("somebody", x.stepped(2, NONE), 0);
            Calls.meet(x, 1, 1, 0);
            // a is in room 1 by 2 and 3 steps of each six.
            due("a", x.stepped(2, NONE), 14);
            due("a first", x.stepped(2, 0), 2);
            due("the bench is none", Calls.meet(x, 0, 0, 254), NONE);
            due("no such lodger", Calls.meet(x, 0, 0, 3), NONE);
            Calls.meet(x, 1, 1, 0, 1, 0, 255, 0, 1, 0, 1, 0, 255);
            due("nobody in a later row, too", x.stepped(2, NONE), 14);
        });
        says("as if a told LODGER who is AWAY CAME now, ahead of these:", () -> {
            CuckooLodge x = Calls.of("rooms 3;lodger a has 0 1;lodger b has 0 2;in a;");
            Calls.meet(x, 0, 2, 1);
            due("b came to 2", x.stepped(1, NONE), 40);
            Calls.meet(x, 3, 2, 1);
            due("and is there behind 3 nights", x.stepped(1, NONE), 40);
            Calls.meet(x, 0, 2, 255);
            due("nobody in 2: never", x.stepped(1, NONE), 0);
            due("nothing happened", x.lodger(1, 2), NONE);
        });
        says("STEPS (1 .. 40) that there can be, so that all is so.", () -> {
            CuckooLodge x = Calls.of(ROUND + "steps 3;");
            due("all", x.stepped(2, NONE), 40);
            due("from 1", x.stepped(2, 0), 1);
            due("to 40", x.stepped(2, 39), 40);
            Calls.meet(x, 0, 0, 2, 0, 1, 0);
            due("both rows", x.stepped(2, NONE), 7);
            for (int k = 0; k < 7; k++) due("both rows: " + k, x.stepped(2, k), 2 + 6 * k);
        });
        says("TELLING is the number of NIGHTS AHEAD (0 .. 30), the ROOM,", () -> {
            // All leave in night n; two nights on, by who had the bench, the most are 10; in the nights ahead of it 15.
            String text = "rooms 3;lodger a has 2 1;in a;lodger b has 2 0;in b;lodger c has 0 1;in c;lodger d has 2 0;leaves night=";
            int[][] rows = {{0, 2, 2, 10}, {5, 7, 2, 10}, {28, 30, 2, 10}, {29, 0, 0, 15}};
            for (int[] row : rows) {
                CuckooLodge x = Calls.of(text + row[0] + ";");
                for (int what = 0; what < 3; what++) due("in night " + row[0] + " tells(3, " + what + ")", x.tells(3, what), row[1 + what]);
            }
            // The same two nights, the last of them 999, then 1000.
            int[][] late = {{997, 2, 2, 10}, {998, 0, 0, 15}, {999, 0, 0, 15}};
            for (int[] row : late) {
                CuckooLodge x = Calls.of(text + row[0] + ";");
                on(x, 3, row[0] - 768, 0, 0, 0, 0, 0, 0, 2, 0, 0, 0, 1, 0, 255, 0, 0);
                for (int what = 0; what < 3; what++) due("from night " + row[0] + " tells(3, " + what + ")", x.tells(3, what), row[1 + what]);
            }
        });
        says("behind which by whose SLEEPER, whoever it is, or nobody, the most of these left are fewest;", () -> {
            CuckooLodge x = Calls.of(ROUND);
            // In room 0: c by 14, b by 14, a by 12 of 40; in room 1: b by 13, a by 14, c by 13.
            due("of all", x.tells(2, 2), 14);
            Calls.meet(x, 0, 0, 2);
            due("of those with c in 0", x.tells(2, 2), 7);
            due("by room 1", x.tells(2, 1), 1);
            x = Calls.of("rooms 3;lodger a has 0 1;lodger b has 1 2;lodger c has 0 1;in a;in b;");
            // One step: a is left over, nobody is in room 2; more: b is there.
            due("nobody, too", x.tells(2, 2), 39);
            // Left are 2, 5 and each eighth behind these; of them d is in room 0 by 5, b by 2 now.
            x = Calls.of("rooms 3;lodger a has 2 1;in a;lodger b has 2 0;in b;lodger c has 0 1;in c;lodger d has 2 0;leaves night=0;");
            Calls.meet(x, 2, 2, 255);
            due("from now on, whatever night was met", x.tells(3, 0) * 100 + x.tells(3, 1) * 10 + x.tells(3, 2), 5);
        });
        says("of like ones the first, NIGHT by NIGHT, ROOM by ROOM.", () -> {
            CuckooLodge x = Calls.of(ROUND);
            due("night 0", x.tells(2, 0), 0);
            due("room 0, not 1", x.tells(2, 1), 0);
            x = Calls.of("rooms 3;lodger a has 0 1;lodger b has 1 2;lodger c has 0 1;in a;in b;");
            due("room 1 (b or a), not room 2", x.tells(2, 1), 1);
            due("in night 0, too", x.tells(2, 0), 0);
        });
    }

    private static void images() {
        says("AN IMAGE: NIGHT (two bytes, the higher first), the purse (three bytes);", () -> {
            CuckooLodge x = Calls.of("rooms 2;lodger a has 0 1;in a;rents 99;");
            for (int k = 0; k < 20; k++) x.nights(40);
            // 800 is 3 * 256 + 32; 79200 is 65536 + 53 * 256 + 96.
            dueImage("", x, 3, 32, 1, 53, 96, 0, 0, 0, 99, 0);
        });
        says("for each ROOM 1 if it is SHUT, else 0;", () ->
            dueImage("", Calls.of("rooms 5;shut 0;shut 3;"), 0, 0, 0, 0, 0, 1, 0, 0, 1, 0, 0));
        says("for each LODGER where he is (his ROOM; 254: on the BENCH, 255: AWAY),", () ->
            dueImage("", Calls.of(FULL + "in e;"), 0, 0, 0, 0, 0, 0, 0, 0, 0, 1, 0, 255, 0, 255, 0, 254, 0, 1, 4));
        says("for how many NIGHTS (0 of one who is no SLEEPER);", () -> {
            CuckooLodge x = Calls.of(FULL);
            x.nights(2);
            x.come(4);
            x.go(1);
            dueImage("", x, 0, 2, 0, 0, 4, 0, 0, 0, 2, 255, 0, 255, 0, 255, 0, 254, 0, 1, 4);
        });
        says("how many are on the BENCH, these, from the first on;", () -> {
            CuckooLodge x = Calls.of(FULL + "bench 3;in e;in c;in d;");
            dueImage("three", x, 0, 0, 0, 0, 0, 0, 0, 0, 0, 1, 0, 254, 0, 254, 0, 254, 0, 3, 4, 2, 3);
            x.go(2);
            dueImage("two", x, 0, 0, 0, 0, 0, 0, 0, 0, 0, 1, 0, 255, 0, 254, 0, 254, 0, 2, 4, 3);
        });
        says("last a byte: all ahead from 227 on, c = (5 c + it) mod 251.", () -> {
            CuckooLodge x = new CuckooLodge();
            // 227, 131, 153, 12, 60, 49, 245.
            due("six times 0", x.image(), 7);
            due("its last byte", x.octet(6), 245);
            x = Calls.of("rooms 2;shut 1;");
            // Behind five times 0 it is 49; then 245, 1225 + 1 is 222 more than 4 * 251, and 1110 is 106 more than 4 * 251.
            due("with one shut", x.image(), 9);
            due("its last byte then", x.octet(8), 106);
        });
    }

    public static void main(String[] args) {
        DOC.section("Terms II");
        whoIsWhere();
        coming();
        nightByNight();
        bySeed();
        keptAndActs();
        DOC.section("Terms III");
        ahead();
        together();
        makingWay();
        met();
        images();
        DOC.close("HouseEdgesTest");
    }
}
