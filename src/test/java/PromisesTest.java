import java.math.BigInteger;
import java.util.Arrays;

/** Each promise of the document: ordinary inputs, the edges that it names, wrong inputs. The answers are reckoned by hand. */
public final class PromisesTest {
    private static final int NONE = CuckooLodge.NONE;

    private static final String FIVE = "rooms 4;bench 1;steps 3;knock 50;lodger ann has 0 1;lodger bob has 1 2;lodger cid has 0 2;"
        + "lodger dot has 2 3;lodger eve has 0 1;in ann;in bob;in dot;yields nights<2;leaves nights>3;rents 5+first*2;";
    // Three for two rooms: whoever comes makes them go round until the steps end.
    private static final String ROUND = "rooms 2;bench 1;steps 5;lodger a has 0 1;lodger b has 1 0;lodger c has 0 1;in a;in b;";
    // Nobody yields; those in bed leave behind their third night, and c has the bench until then.
    private static final String QUEUE = "rooms 2;bench 2;lodger a has 0 1;lodger b has 1 0;lodger c has 0 1;in a;in b;in c;"
        + "yields step>0;leaves nights>2;";

    // d makes all go round with the period 8, and one has the bench: a, c, b, d, c, a, b, d. In rooms 0, 1, 2 are then
    // bcd, bad, cad, cab, dab, dcb, dca, bca. All leave in night 0; whoever had the bench has his first room in night 1.
    private static final String LEFT_OVER = "rooms 3;lodger a has 2 1;in a;lodger b has 2 0;in b;lodger c has 0 1;in c;lodger d has 2 0;leaves night=0;";

    private static void due(String call, long got, long want) {
        Calls.due(call, got, want);
    }

    private static void due(String call, boolean got, boolean want) {
        Calls.due(call, got, want);
    }

    /** A night's answers to 'has', joined, so that one row tells them all. */
    private static void dueHas(String where, CuckooLodge x, int... want) {
        for (int i = 0; i < want.length; i++) due(where + " has(" + i + ")", x.has(i), want[i]);
    }

    private static void dueImage(String where, CuckooLodge x, int... want) {
        int[] got = Calls.imageOf(x);
        due(where + " image " + Arrays.toString(got), Arrays.equals(got, Calls.checked(want)), true);
    }

    private static void p1New() {
        CuckooLodge x = new CuckooLodge();
        dueHas("1", x, 0, 0, 0, 0, 0, 0, 0, 0, 0, 0, 0, 0, 0, 0, 1);
        due("1 bench(0)", x.bench(0), NONE);
        for (int k = 0; k < 6; k++) due("1 status(" + k + ")", x.status(k), 0);
    }

    private static void p2Feed() {
        CuckooLodge x = new CuckooLodge();
        for (int i = 1; i <= 80; i++) due("2 feed", x.feed(0x20202020, 0x20202020, 0x20202020, 0x20202020, 0x20202020), 20 * i);
        due("2 feed above 1600", x.feed(0, 0, 0, 0, 0), NONE);
        due("2 status(0)", x.status(0), 1);
        x.end(1581);
        due("2 feed from 1581", x.feed(0, 0, 0, 0, 0), NONE);
        x.end(1580);
        due("2 feed from 1580", x.feed(0, 0, 0, 0, 0), 1600);
        x.end(1580);
        due("2 lodge of blanks", x.lodge(), NONE);
        due("2 all were blanks", x.fault(1), 1580);
        // 'room','s 2;','shut',' 1; ','    '
        x.feed(0x726f6f6d, 0x7320323b, 0x73687574, 0x20313b20, 0x20202020);
        due("2 the highest byte first", x.lodge(), 2);
        due("2 its room is shut", x.room(1, 1), 1);
    }

    private static void p3End() {
        CuckooLodge x = new CuckooLodge();
        due("3 end(0)", x.end(0), true);
        due("3 end(1) of 0", x.end(1), false);
        x.feed(0x726f6f6d, 0x7320323b, 0x73687574, 0x20313b20, 0x20202020);
        due("3 end(21)", x.end(21), false);
        due("3 end(-1)", x.end(-1), false);
        due("3 end(20)", x.end(20), true);
        due("3 status(0)", x.status(0), 3);
        due("3 end(8)", x.end(8), true);
        due("3 end(9)", x.end(9), false);
        due("3 feed behind", x.feed(0x20202020, 0x20202020, 0x20202020, 0x20202020, 0x20202020), 28);
        due("3 lodge", x.lodge(), 1);
    }

    private static void p4Lodge() {
        CuckooLodge x = Calls.of(ROUND);
        x.seed(77);
        x.come(2);
        x.nights(2);
        Calls.meet(x, 0, 0, 0);
        dueHas("4 ahead of a fault", x, 2, 3, 2, 1, 0, 0, 0, 2, 4, 1, 5, 5, 1, 2, 77);
        due("4 a fault", Calls.tell(x, "rooms 2;shut 1;shut 1;"), NONE);
        due("4 the tape is gone", x.end(1), false);
        due("4 status(1)", x.status(1), 1);
        dueHas("4 behind a fault", x, 2, 3, 2, 1, 0, 0, 0, 2, 4, 1, 5, 5, 1, 2, 77);
        due("4 the formulas stay", x.purse(1), 6);
        due("4 without a fault", Calls.tell(x, "rooms 3;lodger a has 2 1;shut 2;in a;bench 3;bench 2;"), 6);
        due("4 the tape is gone again", x.end(1), false);
        dueHas("4 anew", x, 3, 1, 1, 0, 0, 1, 1, 0, 0, 2, 10, 0, 0, 0, 77);
        due("4 by all that the text tells", x.lodger(0, 2), 1);
        due("4 no act can be undone", x.undo(), false);
        due("4 the latest of many", Calls.tell(x, "rooms 5;"), 1);
        dueHas("4 bare", x, 5, 0, 0, 0, 0, 5, 0, 0, 0, 1, 10, 0, 0, 0, 77);
        // A long text many times over: nothing of an older one is in the way, and what it told is gone.
        x = new CuckooLodge();
        for (int i = 0; i < 5; i++) {
            due("4 a long text", Calls.tell(x, "rooms 2;lodger a has 0 1;in a;knock 9;shut 1;rents 0" + "+1".repeat(60) + "+0".repeat(600) + ";"), 6);
            due("4 its rent", x.purse(1), 60);
        }
        due("4 short again", Calls.tell(x, "rooms 2;lodger b has 1 0;in b;"), 3);
        due("4 no shut room", x.room(1, 0), 0);
        due("4 no rents", x.purse(1), 1);
        due("4 no knock", x.odds(0), 100);
        // The bench and the steps told last hold for those who came first in the text.
        x = Calls.of("rooms 2;lodger a has 0 1;lodger b has 1 0;lodger c has 0 1;in a;in b;in c;steps 1;bench 0;steps 2;");
        due("4 two steps: b is out", x.lodger(1, 2), NONE);
        due("4 no place on the bench", x.has(4), 1);
        due("4 not kept", x.has(11), 0);
    }

    private static void p5Fault() {
        CuckooLodge x = new CuckooLodge();
        due("5 fault(0) ahead of any", x.fault(0), 0);
        due("5 fault(1) ahead of any", x.fault(1), NONE);
        Calls.tell(x, "rooms 2;shut 2;");
        due("5 fault(0)", x.fault(0), 4);
        due("5 fault(1)", x.fault(1), 13);
        due("5 fault(2)", x.fault(2), NONE);
        due("5 fault(-1)", x.fault(-1), NONE);
        Calls.tell(x, "rooms 2;");
        due("5 fault(0) without", x.fault(0), 0);
        due("5 fault(1) without", x.fault(1), NONE);
    }

    private static void p6Has() {
        CuckooLodge x = Calls.of(FIVE);
        dueHas("6", x, 4, 5, 3, 0, 2, 1, 0, 0, 0, 1, 3, 0, 0, 0, 1);
        due("6 has(15)", x.has(15), NONE);
        due("6 has(-1)", x.has(-1), NONE);
        x.shut(3, 1);
        x.come(2);
        x.nights(1);
        dueHas("6 later", x, 4, 5, 3, 1, 1, 0, 1, 1, 17, 1, 3, 3, 0, 3, 1);
    }

    private static void p7Letter() {
        CuckooLodge x = Calls.of("rooms 2;lodger cuckoo has 0 1;lodger z has 1 0;");
        int[] cuckoo = {3, 21, 3, 11, 15, 15};
        for (int k = 0; k < 6; k++) {
            due("7 letter(0, " + k + ")", x.letter(0, k), cuckoo[k]);
            due("7 letter(1, " + k + ")", x.letter(1, k), k == 0 ? 26 : 0);
        }
        due("7 letter(0, 6)", x.letter(0, 6), NONE);
        due("7 letter(0, -1)", x.letter(0, -1), NONE);
        due("7 letter(2, 0)", x.letter(2, 0), NONE);
        due("7 letter(-1, 0)", x.letter(-1, 0), NONE);
    }

    private static void p8Room() {
        CuckooLodge x = Calls.of("rooms 4;lodger a has 0 1;lodger b has 1 0;lodger c has 1 3;in a;in b;shut 2;yields room=1 and step=0;");
        int[][] want = {{0, 0, 0, 2, 0}, {1, 0, 0, 3, 1}, {NONE, 1, 0, 0, 0}, {NONE, 0, 1, 1, 0}};
        for (int room = 0; room < 4; room++) {
            for (int what = 0; what < 5; what++) due("8 room(" + room + ", " + what + ")", x.room(room, what), want[room][what]);
        }
        due("8 room(4, 0)", x.room(4, 0), NONE);
        due("8 room(-1, 0)", x.room(-1, 0), NONE);
        due("8 room(0, 5)", x.room(0, 5), NONE);
        due("8 room(0, -1)", x.room(0, -1), NONE);
    }

    private static void p9Lodger() {
        CuckooLodge x = Calls.of(QUEUE);
        x.nights(2);
        int[][] want = {{0, 1, 0, 2, NONE}, {1, 0, 1, 2, NONE}, {0, 1, NONE, 0, 0}};
        for (int l = 0; l < 3; l++) {
            for (int what = 0; what < 5; what++) due("9 lodger(" + l + ", " + what + ")", x.lodger(l, what), want[l][what]);
        }
        x.nights(1);
        due("9 nights of one who is away", x.lodger(0, 3), 0);
        due("9 room of one who is away", x.lodger(0, 2), NONE);
        due("9 lodger(3, 0)", x.lodger(3, 0), NONE);
        due("9 lodger(-1, 0)", x.lodger(-1, 0), NONE);
        due("9 lodger(0, 5)", x.lodger(0, 5), NONE);
        due("9 lodger(0, -1)", x.lodger(0, -1), NONE);
        x = Calls.of("rooms 2;lodger a has 0 1;in a;");
        x.nights(40);
        x.nights(40);
        x.nights(19);
        due("9 99 nights", x.lodger(0, 3), 99);
        x.nights(1);
        due("9 99 nights at most", x.lodger(0, 3), 99);
    }

    private static void p10Bench() {
        CuckooLodge x = Calls.of("rooms 2;bench 3;lodger a has 0 1;lodger b has 1 0;lodger c has 0 1;lodger d has 1 0;lodger e has 0 1;"
            + "in a;in b;in e;in d;in c;yields not all;");
        due("10 bench(0)", x.bench(0), 4);
        due("10 bench(1)", x.bench(1), 3);
        due("10 bench(2)", x.bench(2), 2);
        due("10 bench(3)", x.bench(3), NONE);
        due("10 bench(-1)", x.bench(-1), NONE);
        x.go(3);
        due("10 behind one who went: bench(1)", x.bench(1), 2);
        due("10 behind one who went: lodger(2, 4)", x.lodger(2, 4), 1);
        x.go(1);
        x.nights(1);
        due("10 the first takes what is empty", x.lodger(4, 2), 1);
        due("10 the next is first", x.bench(0), 2);
        due("10 nobody behind", x.bench(1), NONE);
        // A full bench: who is left over is AWAY.
        x = Calls.of("rooms 2;bench 0;steps 1;lodger a has 0 1;lodger b has 1 0;lodger c has 0 1;in a;in b;");
        due("10 a is put out", x.come(2), 1);
        due("10 and away", x.has(4), 1);
        due("10 that is a", x.lodger(0, 2), NONE);
    }

    private static void p11Chain() {
        CuckooLodge x = Calls.of(ROUND);
        int[] want = {0, 1, 2, 0, 1};
        due("11 chain(2, NONE)", x.chain(2, NONE), 5);
        for (int k = 0; k < 5; k++) due("11 chain(2, " + k + ")", x.chain(2, k), want[k]);
        due("11 chain(2, 5)", x.chain(2, 5), NONE);
        due("11 chain(2, -2)", x.chain(2, -2), NONE);
        due("11 chain(0, NONE)", x.chain(0, NONE), NONE);
        due("11 chain(3, NONE)", x.chain(3, NONE), NONE);
        due("11 chain(-1, NONE)", x.chain(-1, NONE), NONE);
        due("11 nothing happened", x.has(4), 1);
        x.come(2);
        due("11 one on the bench", x.chain(1, NONE), NONE);
        // The first room's sleeper does not yield, the other one's does and finds a free one.
        x = Calls.of("rooms 3;lodger a has 0 1;lodger b has 1 2;lodger c has 0 1;in a;in b;yields room=1;");
        due("11 by the other room", x.chain(2, NONE), 1);
        due("11 it is b", x.chain(2, 0), 1);
        // What yields may ask: the steps, the empty rooms, the night, the nights.
        x = Calls.of("rooms 3;steps 9;lodger a has 0 1;lodger b has 1 0;lodger c has 0 1;in a;in b;yields step<night+3 and empty=1 and nights<2;");
        due("11 as long as step is below 3", x.chain(2, NONE), 3);
        x.nights(1);
        due("11 in night 1 one more", x.chain(2, NONE), 4);
        x.nights(1);
        due("11 behind two nights nobody", x.chain(2, NONE), 0);
        x.undo();
        x.shut(2, 1);
        due("11 none empty", x.chain(2, NONE), 0);
    }

    private static void p12Later() {
        CuckooLodge x = Calls.of(QUEUE);
        int[] room0 = {0, 0, 0, NONE, 2, 2, NONE, NONE};
        for (int n = 0; n < room0.length; n++) due("12 later(0, " + n + ")", x.later(0, n), room0[n]);
        due("12 later(1, 2)", x.later(1, 2), 1);
        due("12 later(1, 40)", x.later(1, 40), NONE);
        due("12 later(2, 0)", x.later(2, 0), NONE);
        due("12 later(-1, 0)", x.later(-1, 0), NONE);
        due("12 later(0, -1)", x.later(0, -1), NONE);
        due("12 later(0, 41)", x.later(0, 41), NONE);
        due("12 nothing happened", x.has(7), 0);
        x = Calls.of("rooms 2;lodger a has 0 1;in a;");
        due("12 later(0, 40)", x.later(0, 40), 0);
        due("12 later(0, 41) with one in it", x.later(0, 41), NONE);
        due("12 to night 990", Calls.on(x, Calls.checked(3, 222, 0, 0, 0, 0, 0, 0, 7, 0)), true);
        due("12 to night 999", x.later(0, 9), 0);
        due("12 beyond night 999", x.later(0, 10), NONE);
        // Each goes by what is so when it is his turn: with a gone, a room is empty, and b stays.
        x = Calls.of("rooms 2;lodger a has 0 1;lodger b has 1 0;in a;in b;leaves empty<1;");
        due("12 a leaves", x.later(0, 1), NONE);
        due("12 b stays", x.later(1, 1), 1);
        x = Calls.of("rooms 2;bench 2;lodger a has 0 1;lodger b has 1 0;lodger c has 0 1;in a;in b;in c;yields step>0;leaves bench=1 and night=1;");
        due("12 leaves by the bench and the night", x.later(0, 1), 0);
        due("12 behind night 1 both left", x.later(0, 2), NONE);
        due("12 then c has it", x.later(0, 3), 2);
    }

    private static void p13Sleeps() {
        CuckooLodge x = Calls.of(QUEUE);
        due("13 sleeps(0)", x.sleeps(0), 0);
        due("13 sleeps(2)", x.sleeps(2), 4);
        due("13 sleeps(3)", x.sleeps(3), NONE);
        due("13 sleeps(-1)", x.sleeps(-1), NONE);
        x.go(0);
        due("13 away", x.sleeps(0), NONE);
        due("13 by the free room", x.sleeps(2), 1);
        String slow = "rooms 2;bench 2;lodger a has 0 1;lodger b has 1 0;lodger c has 0 1;in a;in b;in c;yields step>0;leaves nights>";
        due("13 behind 40", Calls.of(slow + "38;").sleeps(2), 40);
        due("13 behind 41", Calls.of(slow + "39;").sleeps(2), NONE);
        x = Calls.of(QUEUE);
        due("13 to night 996", Calls.on(x, Calls.checked(3, 228, 0, 0, 0, 0, 0, 0, 0, 1, 0, 254, 0, 1, 2)), true);
        due("13 beyond night 999", x.sleeps(2), NONE);
        due("13 to night 995", Calls.on(x, Calls.checked(3, 227, 0, 0, 0, 0, 0, 0, 0, 1, 0, 254, 0, 1, 2)), true);
        due("13 just in night 999", x.sleeps(2), 4);
    }

    private static void p14Purse() {
        CuckooLodge x = Calls.of(QUEUE);
        int[] want = {0, 2, 4, 6, 7, 8, 9, 9};
        for (int n = 0; n < want.length; n++) due("14 purse(" + n + ")", x.purse(n), want[n]);
        due("14 purse(40)", x.purse(40), 9);
        due("14 purse(41)", x.purse(41), NONE);
        due("14 purse(-1)", x.purse(-1), NONE);
        due("14 without a lodge", new CuckooLodge().purse(0), NONE);
        due("14 five and two", Calls.of(FIVE).purse(4), 84);
        due("14 99 at most", rent("1000"), 99);
        due("14 0 at least", rent("0-7"), 0);
        x = Calls.of("rooms 2;lodger a has 0 1;in a;rents 60;");
        due("14 to 999900", Calls.on(x, Calls.checked(0, 0, 15, 65, 220, 0, 0, 0, 0, 0)), true);
        due("14 purse(1) there", x.purse(1), 999960);
        due("14 999999 at most", x.purse(2), 999999);
        sums();
    }

    /** What one lodger, in room 1 which is his other one, in a lodge of 4 rooms, pays in night 0. */
    private static int rent(String sum) {
        return Calls.of("rooms 4;lodger a has 0 1;shut 0;in a;rents " + sum + ";").purse(1);
    }

    private static void sums() {
        String[][] rows = {{"7/2", "3"}, {"(0-7)/2+50", "46"}, {"(0-7)%2", "1"}, {"7%(0-2)+5", "4"}, {"(0-7)%(0-2)+5", "4"}, {"7/0", "0"}, {"7%0", "0"},
            {"2+3*4", "14"}, {"(2+3)*4", "20"}, {"20-5-3", "12"}, {"50/5*2", "20"}, {"50%7*3", "3"}, {"min(3,9)+max(3,9)", "12"},
            {"if(1<2,5,6)", "5"}, {"if(1>2,5,6)", "6"}, {"if(1=1,5,6)", "5"}, {"if(2=1,5,6)", "6"}, {"if(1<1 or 1>1,5,6)", "6"},
            {"if(all or all and not all,5,6)", "5"}, {"if([all or all] and not all,5,6)", "6"}, {"if(not all or all,5,6)", "5"},
            {"if(not [all or all],5,6)", "6"}, {"room*10+empty", "12"}, {"night+nights+7", "7"}, {"first+8", "8"},
            {"9999*9999/(1000*20)", "50"}, {"1000*1001-9999*100-90", "10"}, {"(0-1000)*1001+9999*100+110", "10"},
            {"9999*100+9999-9999*100-99", "1"},
            {"0-9999*100-9999+9999*100+150", "50"}, {"0012", "12"}};
        for (String[] row : rows) due("14 rents " + row[0], rent(row[0]), Integer.parseInt(row[1]));
        CuckooLodge x = Calls.of("rooms 2;lodger a has 0 1;in a;rents night*10+nights+first*5;");
        x.nights(1);
        due("14 night and nights are those ahead of the count", x.purse(1), 5 + 10 + 1 + 5);
    }

    private static void p15Most() {
        CuckooLodge x = Calls.of(FIVE);
        due("15 most(31)", x.most(31), 4);
        due("15 most(0)", x.most(0), 0);
        due("15 most(17)", x.most(17), 2);
        due("15 most(23)", x.most(23), 3);
        due("15 most(32)", x.most(32), NONE);
        due("15 most(-1)", x.most(-1), NONE);
        due("15 most(MIN)", x.most(Integer.MIN_VALUE), NONE);
        x = Calls.of("rooms 4;lodger a has 0 1;lodger b has 0 1;lodger c has 2 3;lodger d has 0 2;shut 0;shut 1;");
        due("15 with both rooms shut", x.most(3), 0);
        due("15 of all, two shut", x.most(15), 2);
        x.shut(0, 0);
        due("15 one opened", x.most(15), 3);
    }

    private static void p16Ways() {
        CuckooLodge x = Calls.of(FIVE);
        due("16 ways(0)", x.ways(0), 1);
        due("16 ways(1)", x.ways(1), 2);
        due("16 a row of three", x.ways(11), 4);
        due("16 a ring", x.ways(7), 2);
        due("16 a ring with a tail", x.ways(15), 2);
        due("16 too many", x.ways(31), 0);
        due("16 two apart", x.ways(24), 4);
        due("16 ways(32)", x.ways(32), NONE);
        due("16 ways(-1)", x.ways(-1), NONE);
        x.shut(3, 1);
        due("16 one way for dot", x.ways(8), 1);
        due("16 dot holds the row", x.ways(11), 1);
        x = Calls.of("rooms 16;" + pairs(8));
        due("16 eight apart", x.ways(255), 256);
        due("16 without a lodge", new CuckooLodge().ways(0), 1);
    }

    private static String pairs(int n) {
        StringBuilder b = new StringBuilder();
        for (int i = 0; i < n; i++) {
            b.append("lodger n").append((char) ('a' + i)).append(" has ").append(2 * i).append(' ').append(2 * i + 1).append(';');
        }
        return b.toString();
    }

    private static void p17Turned() {
        CuckooLodge x = Calls.of(FIVE);
        due("17 turned(31)", x.turned(31), 1);
        due("17 turned(15)", x.turned(15), 0);
        due("17 turned(0)", x.turned(0), 0);
        due("17 turned(32)", x.turned(32), NONE);
        due("17 turned(-1)", x.turned(-1), NONE);
        x = Calls.of("rooms 5;lodger a has 3 4;lodger b has 0 1;lodger c has 0 1;lodger d has 1 0;lodger e has 0 1;shut 3;");
        due("17 two of four", x.turned(31), 6);
        due("17 of the others", x.turned(28), 4);
        x.shut(4, 1);
        due("17 a has no bed at all", x.turned(31), 7);
        x.shut(0, 1);
        due("17 one bed for four", x.turned(30), 14);
    }

    private static void p18Crowd() {
        CuckooLodge x = Calls.of(FIVE);
        due("18 crowd()", x.crowd(), 23);
        x.shut(3, 1);
        due("18 with dot for room 2 alone", x.crowd(), 15 & ~1 | 1);
        x = Calls.of("rooms 3;lodger a has 0 1;lodger b has 1 2;lodger c has 2 0;");
        due("18 all can", x.crowd(), NONE);
        x.shut(1, 1);
        due("18 three for two rooms", x.crowd(), 7);
        x.shut(2, 1);
        due("18 b has no bed", x.crowd(), 2);
        due("18 without a lodge", new CuckooLodge().crowd(), NONE);
        x = Calls.of("rooms 8;lodger a has 0 1;lodger b has 1 2;lodger c has 2 0;lodger d has 0 3;lodger e has 4 5;lodger f has 4 5;lodger g has 2 3;lodger h has 5 4;");
        due("18 the fewest, though they stand behind", x.crowd(), 16 + 32 + 128);
        x = Calls.of("rooms 8;lodger a has 0 1;lodger b has 0 1;lodger c has 6 7;lodger d has 6 7;lodger e has 6 7;lodger f has 0 1;lodger g has 6 7;");
        due("18 of like ones the least bits", x.crowd(), 4 + 8 + 16);
    }

    private static void p19Clear() {
        CuckooLodge x = Calls.of(FIVE);
        int[] want = {3, 2, 1, 0};
        for (int room = 0; room < 4; room++) due("19 clear(" + room + ")", x.clear(room), want[room]);
        due("19 clear(4)", x.clear(4), NONE);
        due("19 clear(-1)", x.clear(-1), NONE);
        x.shut(3, 1);
        due("19 a shut room", x.clear(3), NONE);
        due("19 nowhere to go", x.clear(0), NONE);
        x = Calls.of("rooms 3;lodger a has 0 1;lodger b has 1 0;in a;in b;");
        due("19 round and round", x.clear(0), NONE);
        due("19 the free one", x.clear(2), 0);
        x = Calls.of("rooms 4;lodger a has 0 1;lodger b has 1 2;lodger c has 2 1;in a;in b;in c;");
        due("19 into a ring", x.clear(0), NONE);
    }

    private static void p20Moves() {
        CuckooLodge x = Calls.of(FIVE);
        due("20 moves(2)", x.moves(2), 1);
        due("20 moves(4)", x.moves(4), 2);
        due("20 a sleeper", x.moves(0), NONE);
        due("20 moves(5)", x.moves(5), NONE);
        due("20 moves(-1)", x.moves(-1), NONE);
        x.shut(3, 1);
        due("20 it can't be", x.moves(2), NONE);
        x = Calls.of("rooms 3;bench 1;lodger a has 0 1;lodger b has 1 0;lodger c has 0 1;lodger d has 0 2;in a;in b;in c;yields step>0;");
        due("20 on the bench, round and round", x.moves(2), NONE);
        due("20 a free one", x.moves(3), 0);
        x.shut(2, 1);
        due("20 that is shut", x.moves(3), NONE);
    }

    private static void p21Odds() {
        CuckooLodge x = Calls.of(FIVE);
        due("21 all rows", x.odds(NONE), 500);
        due("21 cid", x.odds(2), 50);
        due("21 ann", x.odds(0), 500);
        due("21 odds(5)", x.odds(5), NONE);
        due("21 odds(-2)", x.odds(-2), NONE);
        due("21 without lodgers", Calls.of("rooms 2;knock 3;").odds(NONE), NONE);
        due("21 nothing happened", x.has(7), 0);
        // One step: whoever knocks has a's bed, and a has the bench.
        x = Calls.of("rooms 2;steps 1;knock 30;lodger a has 0 1;lodger b has 1 0;lodger c has 0 1;lodger d has 0 1;in a;in b;");
        due("21 a, unless c or d knock", x.odds(0), 400 - 60);
        due("21 b", x.odds(1), 400);
        due("21 c", x.odds(2), 30);
        x = Calls.of("rooms 2;knock 100;lodger a has 0 1;lodger b has 0 1;in a;");
        due("21 who knocks always", x.odds(1), 100);
        due("21 to night 998", Calls.on(x, Calls.checked(3, 230, 0, 0, 0, 0, 0, 255, 0, 255, 0, 0)), true);
        due("21 in night 998", x.odds(1), 100);
        x.nights(1);
        due("21 beyond night 999", x.odds(1), NONE);
        due("21 beyond night 999, all rows", x.odds(NONE), NONE);
        // Behind the NIGHT: on the bench ahead of it, in bed behind; and those who leave are out.
        x = Calls.of("rooms 2;bench 2;lodger a has 0 1;lodger b has 1 0;lodger c has 0 1;in a;in b;in c;yields step>0;leaves nights>2;");
        x.nights(3);
        due("21 from the bench", x.odds(2), 300);
        due("21 left", x.odds(0), 0);
    }

    private static void p22Meet() {
        CuckooLodge x = Calls.of(ROUND);
        due("22 one row", Calls.meet(x, 0, 0, 2), 1);
        due("22 has(12)", x.has(12), 1);
        due("22 the tape is gone", x.end(1), false);
        due("22 nobody, the last night, the last room", Calls.meet(x, 30, 1, 255, 0, 0, 0), 2);
        int[] sixteen = new int[48];
        due("22 sixteen", Calls.meet(x, sixteen), 16);
        due("22 seventeen", Calls.meet(x, new int[51]), NONE);
        due("22 none", Calls.meet(x), NONE);
        due("22 two bytes", Calls.meet(x, 0, 0), NONE);
        due("22 four bytes", Calls.meet(x, 0, 0, 0, 0), NONE);
        due("22 the tape is gone too", x.end(1), false);
        due("22 31 nights", Calls.meet(x, 31, 0, 0), NONE);
        due("22 no such room", Calls.meet(x, 0, 2, 0), NONE);
        due("22 no such lodger", Calls.meet(x, 0, 0, 3), NONE);
        due("22 the bench is no sleeper", Calls.meet(x, 0, 0, 254), NONE);
        due("22 a later row", Calls.meet(x, 0, 0, 0, 0, 0, 9), NONE);
        due("22 status(5)", x.status(5), 9);
        due("22 has(12) stays", x.has(12), 16);
        due("22 without a lodge", Calls.meet(new CuckooLodge(), 0, 0, 255), NONE);
    }

    private static void p23Stepped() {
        CuckooLodge x = Calls.of(ROUND);
        due("23 all", x.stepped(2, NONE), 40);
        due("23 the first of all", x.stepped(2, 0), 1);
        due("23 the last of all", x.stepped(2, 39), 40);
        due("23 none such", x.stepped(2, 40), NONE);
        due("23 k below NONE", x.stepped(2, -2), NONE);
        due("23 not away", x.stepped(0, NONE), NONE);
        due("23 stepped(3, NONE)", x.stepped(3, NONE), NONE);
        due("23 stepped(-1, NONE)", x.stepped(-1, NONE), NONE);
        Calls.meet(x, 0, 0, 2);
        due("23 c in room 0", x.stepped(2, NONE), 14);
        int[] want = {1, 2, 7, 8, 13, 14, 19, 20, 25, 26, 31, 32, 37, 38, NONE};
        for (int k = 0; k < want.length; k++) due("23 stepped(2, " + k + ")", x.stepped(2, k), want[k]);
        Calls.meet(x, 0, 0, 2, 0, 1, 1);
        due("23 and b in room 1", x.stepped(2, NONE), 7);
        due("23 the second", x.stepped(2, 1), 7);
        Calls.meet(x, 0, 0, 9);
        due("23 a refused meet changes nothing", x.stepped(2, NONE), 7);
        Calls.meet(x, 0, 0, 255);
        due("23 nobody: never", x.stepped(2, NONE), 0);
        due("23 none of none", x.stepped(2, 0), NONE);
        Calls.tell(x, ROUND);
        due("23 another lodge", x.stepped(2, NONE), 40);
        // Behind two nights whoever was left over has a bed: nobody in room 2, if it was c.
        x = Calls.of(LEFT_OVER);
        Calls.meet(x, 2, 2, 255);
        int[] byNight = {2, 5, 10, 13, 18, 21, 26, 29, 34, 37, NONE};
        due("23 by night 2", x.stepped(3, NONE), 10);
        for (int k = 0; k < byNight.length; k++) due("23 by night 2 stepped(3, " + k + ")", x.stepped(3, k), byNight[k]);
        Calls.meet(x, 2, 2, 255, 0, 0, 3, 1, 0, 255);
        due("23 by three nights", x.stepped(3, NONE), 5);
        due("23 by three nights, the first", x.stepped(3, 0), 5);
        due("23 by three nights, the last", x.stepped(3, 4), 37);
        x = Calls.of("rooms 2;lodger a has 0 1;lodger b has 1 0;lodger c has 0 1;in a;in b;yields not all;leaves all;");
        Calls.meet(x, 2, 0, 255);
        due("23 to night 998", Calls.on(x, Calls.checked(3, 230, 0, 0, 0, 0, 0, 0, 0, 1, 0, 255, 0, 0)), true);
        due("23 met stays behind an image", x.has(12), 1);
        due("23 nights beyond 999 are by none", x.stepped(2, NONE), 0);
        Calls.meet(x, 1, 0, 255);
        due("23 just night 999", x.stepped(2, NONE), 40);
    }

    private static void dueTells(String where, CuckooLodge x, int lodger, int nights, int room, int most) {
        due(where + " tells(0)", x.tells(lodger, 0), nights);
        due(where + " tells(1)", x.tells(lodger, 1), room);
        due(where + " tells(2)", x.tells(lodger, 2), most);
    }

    private static void p24Tells() {
        CuckooLodge x = Calls.of(ROUND);
        dueTells("24 of all", x, 2, 0, 0, 14);
        Calls.meet(x, 0, 0, 2);
        dueTells("24 of those with c in 0", x, 2, 0, 1, 7);
        Calls.meet(x, 0, 0, 255);
        dueTells("24 of none", x, 2, NONE, NONE, NONE);
        due("24 tells(2, 3)", x.tells(2, 3), NONE);
        due("24 tells(2, -1)", x.tells(2, -1), NONE);
        due("24 not away", x.tells(0, 0), NONE);
        Calls.tell(x, ROUND);
        due("24 tells(2, 3) with some left", x.tells(2, 3), NONE);
        due("24 tells(2, -1) with some left", x.tells(2, -1), NONE);
        due("24 tells(3, 0)", x.tells(3, 0), NONE);
        dueTells("24 the document's five", Calls.of(FIVE), 2, 0, 2, 38);
        x = Calls.of(LEFT_OVER);
        dueTells("24 by night 2", x, 3, 2, 2, 10);
        Calls.meet(x, 2, 2, 255);
        dueTells("24 then by night 0", x, 3, 0, 0, 5);
        due("24 to night 998", Calls.on(x, Calls.checked(3, 230, 0, 0, 0, 0, 0, 0, 2, 0, 0, 0, 1, 0, 255, 0, 0)), true);
        dueTells("24 nights beyond 999 are by none", x, 3, NONE, NONE, NONE);
        // In night 999 it would be told, but that night does not go by any more.
        Calls.tell(x, LEFT_OVER.replace("night=0", "night=998"));
        due("24 to night 998 without met", Calls.on(x, Calls.checked(3, 230, 0, 0, 0, 0, 0, 0, 2, 0, 0, 0, 1, 0, 255, 0, 0)), true);
        dueTells("24 not beyond night 999", x, 3, 0, 0, 15);
        dueTells("24 by night 30", Calls.of(LEFT_OVER.replace("night=0", "night=28")), 3, 30, 2, 10);
        dueTells("24 not by night 31", Calls.of(LEFT_OVER.replace("night=0", "night=29")), 3, 0, 0, 15);
        x = Calls.of("rooms 2;bench 1;lodger a has 0 1;lodger b has 0 1;lodger c has 0 1;in a;in b;yields step<2;");
        dueTells("24 one step or more", x, 2, 0, 1, 39);
        x = Calls.of("rooms 2;bench 1;lodger a has 0 1;lodger b has 1 0;lodger c has 0 1;in a;in b;yields room=0;");
        dueTells("24 all alike", x, 2, 0, 0, 40);
    }

    private static void p25Come() {
        CuckooLodge x = Calls.of(ROUND);
        due("25 come(0)", x.come(0), NONE);
        due("25 come(3)", x.come(3), NONE);
        due("25 come(-1)", x.come(-1), NONE);
        due("25 status(3)", x.status(3), 3);
        x.nights(2);
        due("25 come(2)", x.come(2), 5);
        dueImage("25", x, 0, 2, 0, 0, 4, 0, 0, 0, 0, 254, 0, 1, 0, 1, 1);
        due("25 one on the bench", x.come(1), NONE);
        x = Calls.of("rooms 3;lodger a has 0 1;lodger b has 0 1;lodger c has 0 1;");
        due("25 the first room", x.come(0), 0);
        due("25 it is 0", x.lodger(0, 2), 0);
        due("25 the other room", x.come(1), 0);
        due("25 it is 1", x.lodger(1, 2), 1);
        x.go(0);
        x.shut(0, 1);
        due("25 a shut room takes nobody", x.come(2), 1);
        due("25 b has nowhere to go", x.lodger(1, 4), 0);
        due("25 c is in 1", x.room(1, 0), 2);
        // Nobody yields: who comes has the bench, the next one nothing.
        x = Calls.of("rooms 2;lodger a has 0 1;lodger b has 1 0;lodger c has 0 1;lodger d has 0 1;in a;in b;yields not all;");
        due("25 nobody is put out", x.come(2), 0);
        due("25 on the bench", x.bench(0), 2);
        due("25 no place", x.come(3), 0);
        due("25 still away", x.has(4), 1);
        due("25 an act though", x.has(13), 2);
    }

    private static void p26Go() {
        CuckooLodge x = Calls.of(QUEUE);
        due("26 go(0)", x.go(0), true);
        due("26 room 0", x.room(0, 2), 1);
        due("26 go(0) again", x.go(0), false);
        due("26 go(2) from the bench", x.go(2), true);
        due("26 the bench", x.has(3), 0);
        due("26 go(3)", x.go(3), false);
        due("26 go(-1)", x.go(-1), false);
        due("26 status(3)", x.status(3), 3);
        dueImage("26", x, 0, 0, 0, 0, 0, 0, 0, 255, 0, 1, 0, 255, 0, 0);
    }

    private static void p27Shut() {
        CuckooLodge x = Calls.of("rooms 3;lodger a has 0 1;in a;shut 2;");
        due("27 one that is taken", x.shut(0, 1), false);
        due("27 one that is shut", x.shut(2, 1), false);
        due("27 one that is free", x.shut(1, 1), true);
        due("27 it is shut", x.room(1, 1), 1);
        due("27 it is not free", x.room(1, 2), 0);
        due("27 opened", x.shut(2, 0), true);
        due("27 it is free", x.room(2, 2), 1);
        due("27 opened again", x.shut(2, 0), false);
        due("27 one that is taken, opened", x.shut(0, 0), false);
        due("27 shut(3, 1)", x.shut(3, 1), false);
        due("27 shut(-1, 1)", x.shut(-1, 1), false);
        due("27 shut(2, 2)", x.shut(2, 2), false);
        due("27 shut(1, -1)", x.shut(1, -1), false);
        due("27 status(3)", x.status(3), 8);
        due("27 acts", x.has(13), 2);
    }

    private static void p28Nights() {
        CuckooLodge x = Calls.of(QUEUE);
        due("28 nights(0)", x.nights(0), NONE);
        due("28 nights(41)", x.nights(41), NONE);
        due("28 nights(-1)", x.nights(-1), NONE);
        due("28 status(2)", x.status(2), 3);
        due("28 nights(3)", x.nights(3), 6);
        due("28 nights(1)", x.nights(1), 1);
        dueImage("28", x, 0, 4, 0, 0, 7, 0, 0, 255, 0, 255, 0, 0, 1, 0);
        due("28 acts", x.has(13), 2);
        due("28 the seed stays", x.has(14), 1);
        due("28 to night 960", Calls.on(x, Calls.checked(3, 192, 0, 0, 0, 0, 0, 0, 0, 255, 0, 255, 0, 0)), true);
        due("28 beyond 999", x.nights(40), NONE);
        due("28 to 999", x.nights(39), 3);
        due("28 it is", x.has(7), 999);
        due("28 not one more", x.nights(1), NONE);
        due("28 status(2) again", x.status(2), 5);
        due("28 without a lodge", new CuckooLodge().nights(1), NONE);
        due("28 a lodge of one statement", Calls.of("rooms 2;").nights(1), 0);
        x = Calls.of("rooms 2;lodger a has 0 1;in a;");
        due("28 forty at once", x.nights(40), 40);
    }

    private static BigInteger drawn = BigInteger.ONE;

    private static int draw(int m) {
        drawn = drawn.multiply(BigInteger.valueOf(1103515245)).add(BigInteger.valueOf(12345)).mod(BigInteger.ONE.shiftLeft(31));
        return drawn.divide(BigInteger.valueOf(64)).mod(BigInteger.valueOf(m)).intValue();
    }

    private static void p29Chance() {
        String text = "rooms 3;bench 2;steps 2;knock 60;lodger a has 0 1;lodger b has 1 0;lodger c has 0 2;lodger d has 2 0;in a;leaves nights>1;";
        for (int seed : new int[] {1, 0, 7, 123456789, Integer.MAX_VALUE}) {
            CuckooLodge x = Calls.of(text);
            CuckooLodge y = Calls.of(text);
            x.seed(seed);
            drawn = BigInteger.valueOf(seed);
            int came = 0;
            for (int n = 0; n < 15; n++) {
                if (draw(100) < 60 && y.come(draw(4)) != NONE) came++;
                y.nights(1);
            }
            due("29 chance(15)", x.chance(15), came);
            due("29 like come and nights", Arrays.equals(Calls.imageOf(x), Calls.imageOf(y)), true);
            due("29 kept alike", x.has(11), y.has(11));
            for (int k = 0; k < x.has(11); k++) {
                for (int what = 0; what < 3; what++) due("29 kept(" + k + ", " + what + ")", x.kept(k, what), y.kept(k, what));
            }
            due("29 the seed", x.has(14), drawn.intValue());
            due("29 one act", x.has(13), 1);
        }
        CuckooLodge x = Calls.of("rooms 2;knock 100;");
        drawn = BigInteger.ONE;
        draw(100);
        due("29 without lodgers", x.chance(1), 0);
        due("29 one draw alone", x.has(14), drawn.intValue());
        due("29 chance(0)", x.chance(0), NONE);
        due("29 chance(41)", x.chance(41), NONE);
        due("29 chance(-3)", x.chance(-3), NONE);
        due("29 without a lodge", new CuckooLodge().chance(1), NONE);
        due("29 to night 960", Calls.on(x, Calls.checked(3, 192, 0, 0, 0, 0, 0, 0)), true);
        due("29 beyond 999", x.chance(40), NONE);
        due("29 no draw when refused", x.has(14), drawn.intValue());
        due("29 status(2)", x.status(2), 4);
        due("29 to 999", x.chance(39), 0);
    }

    private static void p30Undo() {
        CuckooLodge x = Calls.of(ROUND);
        due("30 none", x.undo(), false);
        due("30 status(4)", x.status(4), 1);
        int[][] seen = new int[6][];
        seen[0] = Calls.imageOf(x);
        x.come(2);
        seen[1] = Calls.imageOf(x);
        x.nights(3);
        seen[2] = Calls.imageOf(x);
        x.go(0);
        seen[3] = Calls.imageOf(x);
        x.shut(0, 1);
        seen[4] = Calls.imageOf(x);
        x.shut(0, 0);
        seen[5] = Calls.imageOf(x);
        x.chance(4);
        int drawnNow = x.has(14);
        for (int k = 5; k >= 0; k--) {
            due("30 acts", x.has(13), k + 1);
            due("30 undo", x.undo(), true);
            due("30 as it was", Arrays.equals(Calls.imageOf(x), seen[k]), true);
            due("30 but the seed", x.has(14), drawnNow);
            due("30 kept as it was", x.has(11), k == 0 ? 0 : 5);
        }
        due("30 none left", x.undo(), false);
        x.come(0);
        due("30 what is refused is no act", x.has(13), 0);
        // The last 20 alone.
        for (int i = 0; i < 23; i++) x.nights(1);
        due("30 20 at most", x.has(13), 20);
        for (int i = 0; i < 20; i++) due("30 undo", x.undo(), true);
        due("30 not the 21st", x.undo(), false);
        due("30 night 3", x.has(7), 3);
        // What fell off the end of what is kept comes back, too.
        x = Calls.of("rooms 2;bench 0;steps 30;lodger a has 0 1;lodger b has 1 0;lodger c has 0 1;in a;in b;");
        x.nights(7);
        due("30 thirty", x.come(2), 30);
        x.nights(1);
        int awayNow = x.lodger(0, 2) == NONE ? 0 : x.lodger(1, 2) == NONE ? 1 : 2;
        due("30 thirty more", x.come(awayNow), 30);
        due("30 forty are told", x.has(11), 40);
        due("30 the oldest is the 21st", x.kept(9, 0), 7);
        due("30 and then night 8", x.kept(10, 0), 8);
        x.undo();
        due("30 thirty again", x.has(11), 30);
        due("30 of night 7", x.kept(29, 0), 7);
        due("30 from a on", x.kept(0, 1), 0);
    }

    private static void p31Seed() {
        CuckooLodge x = new CuckooLodge();
        due("31 seed(5)", x.seed(5), true);
        due("31 has(14)", x.has(14), 5);
        due("31 seed(-1)", x.seed(-1), false);
        due("31 seed(MIN)", x.seed(Integer.MIN_VALUE), false);
        due("31 status(5)", x.status(5), 2);
        due("31 it stays", x.has(14), 5);
        due("31 seed(0)", x.seed(0), true);
        due("31 seed(MAX)", x.seed(Integer.MAX_VALUE), true);
        due("31 has(14) MAX", x.has(14), Integer.MAX_VALUE);
    }

    private static void p32Kept() {
        CuckooLodge x = Calls.of(ROUND);
        x.nights(3);
        x.come(2);
        int[] lodgers = {0, 1, 2, 0, 1};
        for (int k = 0; k < 5; k++) {
            due("32 kept(" + k + ", 0)", x.kept(k, 0), 3);
            due("32 kept(" + k + ", 1)", x.kept(k, 1), lodgers[k]);
            due("32 kept(" + k + ", 2)", x.kept(k, 2), k % 2);
        }
        due("32 kept(5, 0)", x.kept(5, 0), NONE);
        due("32 kept(-1, 0)", x.kept(-1, 0), NONE);
        due("32 kept(0, 3)", x.kept(0, 3), NONE);
        due("32 kept(0, -1)", x.kept(0, -1), NONE);
        // Ten times five are fifty: of these the last 40.
        for (int i = 1; i < 10; i++) {
            x.go(x.bench(0));
            x.nights(1);
            for (int l = 0; l < 3; l++) {
                if (x.chain(l, NONE) != NONE) x.come(l);
            }
        }
        due("32 forty", x.has(11), 40);
        due("32 the oldest", x.kept(0, 0), 5);
        due("32 the newest", x.kept(39, 0), 12);
        due("32 kept(40, 0)", x.kept(40, 0), NONE);
    }

    private static void p33Image() {
        due("33 without a lodge", new CuckooLodge().image(), 7);
        dueImage("33 without a lodge", new CuckooLodge(), 0, 0, 0, 0, 0, 0);
        CuckooLodge x = Calls.of("rooms 3;bench 2;lodger a has 0 1;lodger b has 1 0;lodger c has 0 1;lodger d has 0 1;in a;in b;in c;shut 2;yields step>0;rents 77;");
        for (int i = 0; i < 7; i++) x.nights(40);
        due("33 how many bytes", x.image(), 5 + 3 + 8 + 2 + 1);
        // 280 nights of two times 77 are 43120.
        dueImage("33", x, 1, 24, 0, 168, 112, 0, 0, 1, 0, 99, 1, 99, 254, 0, 255, 0, 1, 2);
        x.go(0);
        x.nights(1);
        dueImage("33 later", x, 1, 25, 0, 169, 10, 0, 0, 1, 255, 0, 1, 99, 0, 1, 255, 0, 0);
    }

    private static void p34Octet() {
        CuckooLodge x = Calls.of("rooms 2;lodger a has 0 1;in a;");
        due("34 ahead of any", x.octet(0), NONE);
        x.image();
        due("34 octet(7)", x.octet(7), 0);
        due("34 octet(10)", x.octet(10), Calls.checked(0, 0, 0, 0, 0, 0, 0, 0, 0, 0)[10]);
        due("34 octet(11)", x.octet(11), NONE);
        due("34 octet(-1)", x.octet(-1), NONE);
        x.go(0);
        due("34 of the latest image", x.octet(7), 0);
        x.image();
        due("34 of the latest image now", x.octet(7), 255);
        Calls.tell(x, "rooms 3;");
        due("34 another lodge leaves it", x.octet(7), 255);
    }

    private static void p35On() {
        CuckooLodge x = Calls.of(ROUND);
        x.come(2);
        Calls.meet(x, 0, 0, 0);
        due("35 on", Calls.on(x, Calls.checked(3, 231, 15, 66, 63, 0, 1, 255, 0, 0, 99, 254, 0, 1, 2)), true);
        dueHas("35", x, 2, 3, 1, 1, 1, 0, 1, 999, 999999, 1, 5, 0, 1, 0, 1);
        dueImage("35", x, 3, 231, 15, 66, 63, 0, 1, 255, 0, 0, 99, 254, 0, 1, 2);
        due("35 the tape is gone", x.end(1), false);
        due("35 no act can be undone", x.undo(), false);
        int[] good = Calls.imageOf(x);
        int refused = x.status(5);
        int[][] wrong = {
            {3, 232, 15, 66, 63, 0, 1, 255, 0, 0, 99, 254, 0, 1, 2},
            {3, 231, 15, 66, 64, 0, 1, 255, 0, 0, 99, 254, 0, 1, 2},
            {3, 231, 15, 66, 63, 0, 2, 255, 0, 0, 99, 254, 0, 1, 2},
            {3, 231, 15, 66, 63, 1, 1, 255, 0, 0, 99, 254, 0, 1, 2},
            {3, 231, 15, 66, 63, 0, 1, 255, 0, 0, 100, 254, 0, 1, 2},
            {3, 231, 15, 66, 63, 0, 1, 255, 1, 0, 99, 254, 0, 1, 2},
            {3, 231, 15, 66, 63, 0, 1, 255, 0, 0, 99, 254, 1, 1, 2},
            {3, 231, 15, 66, 63, 0, 0, 2, 0, 0, 99, 254, 0, 1, 2},
            {3, 231, 15, 66, 63, 0, 0, 253, 0, 0, 99, 254, 0, 1, 2},
            {3, 231, 15, 66, 63, 0, 0, 0, 0, 0, 99, 254, 0, 1, 2},
            {3, 231, 15, 66, 63, 0, 1, 255, 0, 0, 99, 254, 0, 1, 0},
            {3, 231, 15, 66, 63, 0, 1, 255, 0, 0, 99, 254, 0, 1, 3},
            {3, 231, 15, 66, 63, 0, 1, 255, 0, 0, 99, 254, 0, 0},
            {3, 231, 15, 66, 63, 0, 1, 255, 0, 0, 99, 255, 0, 1, 2},
            {3, 231, 15, 66, 63, 0, 1, 254, 0, 0, 99, 254, 0, 2, 0, 2},
            {3, 231, 15, 66, 63, 0, 1, 255, 0, 0, 99, 254, 0, 2, 2, 2},
            {3, 231, 15, 66, 63, 0, 1, 255, 0, 0, 99, 254, 0, 1, 2, 0},
            {3, 231, 15, 66, 63, 0, 1, 255, 0, 0, 99, 254, 0},
            {}};
        for (int[] bytes : wrong) {
            due("35 on " + Arrays.toString(bytes), Calls.on(x, Calls.checked(bytes)), false);
            due("35 the tape is gone", x.end(1), false);
        }
        good[good.length - 1] ^= 1;
        due("35 a wrong last byte", Calls.on(x, good), false);
        due("35 nothing", Calls.on(x), false);
        due("35 status(5)", x.status(5) - refused, wrong.length + 2);
        dueImage("35 all stays", x, 3, 231, 15, 66, 63, 0, 1, 255, 0, 0, 99, 254, 0, 1, 2);
        x = new CuckooLodge();
        due("35 without a lodge", Calls.on(x, Calls.checked(0, 0, 0, 0, 0, 0)), false);
        due("35 status(5) without", x.status(5), 1);
        x = Calls.of("rooms 2;bench 2;lodger a has 0 1;lodger b has 1 0;lodger c has 1 0;shut 0;");
        due("35 a room of the text opened, two on the bench", Calls.on(x, Calls.checked(0, 1, 0, 0, 5, 0, 0, 254, 0, 0, 9, 254, 0, 2, 2, 0)), true);
        due("35 bench(0)", x.bench(0), 2);
        due("35 bench(1)", x.bench(1), 0);
        due("35 twice the same on the bench", Calls.on(x, Calls.checked(0, 1, 0, 0, 5, 0, 0, 254, 0, 0, 9, 254, 0, 2, 2, 2)), false);
        x.nights(1);
        dueImage("35 it goes on", x, 0, 2, 0, 0, 7, 0, 0, 254, 0, 0, 10, 1, 1, 1, 0);
    }

    /** Sixteen rooms, sixteen lodgers, six on the bench: nothing is larger. */
    private static void largest() {
        StringBuilder text = new StringBuilder("rooms 16;bench 6;steps 40;knock 100;");
        for (int i = 0; i < 16; i++) {
            int first = i < 10 ? i : i - 6;
            text.append("lodger n").append((char) ('a' + i)).append(" has ").append(first).append(' ').append((first + 1) % 10).append(';');
        }
        for (int i = 0; i < 16; i++) text.append("in n").append((char) ('a' + i)).append(';');
        CuckooLodge x = Calls.of(text + "yields step>0;");
        dueHas("largest", x, 16, 16, 10, 6, 0, 6, 0, 0, 0, 6, 40);
        due("largest image", x.image(), 61);
        due("largest octet", x.octet(60) >= 0 && x.octet(61) == NONE, true);
        due("largest on", Calls.on(x, Calls.imageOf(x)), true);
        due("largest most", x.most(65535), 10);
        // Lodgers 4 to 9 have the same rooms as 10 to 15: of these pairs one closes the ring of two, 9 with 15.
        due("largest turned", x.turned(65535), 1 << 8 | 1 << 7 | 1 << 6 | 1 << 5 | 1 << 4 | 1);
        due("largest ways", x.ways(65535 & ~497), 2);
        due("largest crowd", x.crowd(), 1 << 4 | 1 << 5 | 1 << 10 | 1 << 11);
        due("largest set", x.most(65536), NONE);
        due("largest odds", x.odds(NONE), 1600);
        x = Calls.of(text.toString().replace("in np;", ""));
        due("largest chain", x.chain(15, NONE), 40);
        due("largest stepped", x.stepped(15, NONE), 40);
        due("largest tells", x.tells(15, 2) >= 1, true);
        due("largest come", x.come(15), 40);
        due("largest kept", x.has(11), 40);
        for (int l = 0; l < 16; l++) due("largest chance", x.odds(l) <= 1600, true);
    }

    private static void p36Status() {
        CuckooLodge x = new CuckooLodge();
        x.end(1);
        x.end(-1);
        x.lodge();
        x.nights(1);
        x.chance(1);
        x.nights(0);
        x.come(0);
        x.go(0);
        x.shut(0, 1);
        x.shut(0, 0);
        x.undo();
        x.seed(-1);
        x.meet();
        x.on();
        x.seed(-2);
        x.seed(-3);
        int[] want = {2, 1, 3, 4, 1, 5};
        for (int k = 0; k < 6; k++) due("36 status(" + k + ")", x.status(k), want[k]);
        due("36 status(6)", x.status(6), NONE);
        due("36 status(-1)", x.status(-1), NONE);
        Calls.tell(x, ROUND);
        for (int k = 0; k < 6; k++) due("36 a lodge leaves status(" + k + ")", x.status(k), want[k]);
        x.later(9, 9);
        x.chain(0, 0);
        x.most(-1);
        x.stepped(0, 0);
        x.kept(0, 0);
        for (int k = 0; k < 6; k++) due("36 questions leave status(" + k + ")", x.status(k), want[k]);
    }

    public static void main(String[] args) {
        p1New();
        p2Feed();
        p3End();
        p4Lodge();
        p5Fault();
        p6Has();
        p7Letter();
        p8Room();
        p9Lodger();
        p10Bench();
        p11Chain();
        p12Later();
        p13Sleeps();
        p14Purse();
        p15Most();
        p16Ways();
        p17Turned();
        p18Crowd();
        p19Clear();
        p20Moves();
        p21Odds();
        p22Meet();
        p23Stepped();
        p24Tells();
        p25Come();
        p26Go();
        p27Shut();
        p28Nights();
        p29Chance();
        p30Undo();
        p31Seed();
        p32Kept();
        p33Image();
        p34Octet();
        p35On();
        p36Status();
        largest();
        Calls.close("PromisesTest");
    }
}
