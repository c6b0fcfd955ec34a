import java.util.Arrays;

/** What the document promises of each call, sentence by sentence. */
public final class PromiseEdgesTest {
    private static final int NONE = CuckooLodge.NONE;
    private static final int LEAST = Integer.MIN_VALUE;
    private static final int GREATEST = Integer.MAX_VALUE;
    private static final Sentences DOC = new Sentences();
    private static final int BLANKS = 0x20202020;
    // Whoever of three comes makes all go round: a, b, c, a, b, c .. are put out, of room 0, 1, 0, 1 ..
    private static final String ROUND = "rooms 2;lodger a has 0 1;lodger b has 1 0;lodger c has 0 1;in a;in b;";
    // a, b and c in rooms 0, 1, 2; room 3 is free; d, who is away, makes each go one room on.
    private static final String ROW = "rooms 4;lodger a has 0 1;lodger b has 1 2;lodger c has 2 3;lodger d has 0 1;in a;in b;in c;";
    // Two in bed who never yield, c on the bench, d and e away.
    private static final String FULL = "rooms 2;lodger a has 0 1;lodger b has 1 0;lodger c has 0 1;lodger d has 1 0;lodger e has 0 1;in a;in b;in c;yields not all;";

    private static void says(String words, Runnable test) {
        DOC.says(words, test);
    }

    private static void due(String call, long got, long want) {
        Calls.due(call, got, want);
    }

    private static void due(String call, boolean got, boolean want) {
        Calls.due(call, got, want);
    }

    private static void dueHas(String when, CuckooLodge x, int... want) {
        for (int i = 0; i < want.length; i++) due(when + " has(" + i + ")", x.has(i), want[i]);
    }

    private static void dueStatus(String when, CuckooLodge x, int... want) {
        for (int i = 0; i < want.length; i++) due(when + " status(" + i + ")", x.status(i), want[i]);
    }

    private static boolean on(CuckooLodge x, int... bytes) {
        return Calls.on(x, Calls.checked(bytes));
    }

    private static int blanks(CuckooLodge x) {
        return x.feed(BLANKS, BLANKS, BLANKS, BLANKS, BLANKS);
    }

    /** A lodge with one sleeper, a, in room 0, in the told night. */
    private static CuckooLodge inNight(int night) {
        CuckooLodge x = Calls.of("rooms 2;lodger a has 0 1;in a;");
        due("to night " + night, on(x, night / 256, night % 256, 0, 0, 0, 0, 0, 0, 0, 0), true);
        return x;
    }

    private static void use() {
        says("Cuckoos of two rooms: a lodge told as a text, rooms, lodgers who have paid for two of them each and sleep in one, the bench in the hall, "
            + "who yields his bed, who leaves, what is paid, by a small language.", () -> {
            CuckooLodge x = Calls.of("rooms 2;lodger ann has 0 1;lodger bob has 1 0;lodger cid has 0 1;in ann;in bob;yields nights<1;leaves nights>1;rents 4+first;");
            due("nobody finds a bed in ten steps", x.come(2), 10);
            due("one has the bench", x.has(3), 1);
            // Bob and cid are in their other rooms now; ann has the bench.
            due("what is paid", x.nights(2), 16);
            due("all have left but one", x.bench(0) * 100 + x.has(4), 2);
        });
        says("An object is used for at most 512 calls after it has been made; what later calls answer is free.", () -> {
            CuckooLodge x = new CuckooLodge();
            Calls.tell(x, "rooms 2;lodger a has 0 1;in a;");
            for (int call = 5; call < 512; call += 2) {
                due("call " + call, x.nights(1), 1);
                due("call " + (call + 1), x.undo(), true);
            }
        });
    }

    private static void theTape() {
        DOC.section("Promise 1");
        says("No rooms, nobody;", () -> {
            CuckooLodge x = new CuckooLodge();
            dueHas("", x, 0, 0, 0, 0, 0, 0, 0, 0, 0, 0, 0, 0, 0, 0);
            due("room", x.room(0, 0), NONE);
            due("lodger", x.lodger(0, 0), NONE);
            dueStatus("", x, 0, 0, 0, 0, 0, 0);
        });
        says("the seed is 1.", () -> due("has(14)", new CuckooLodge().has(14), 1));

        DOC.section("Promise 2");
        says("Twenty bytes come behind those on the tape,", () -> {
            CuckooLodge x = new CuckooLodge();
            due("twenty", blanks(x), 20);
            x.end(3);
            due("behind three", x.feed(0x726f6f6d, 0x7320323b, BLANKS, BLANKS, BLANKS), 23);
            x.end(11);
            due("three blanks, then the text", x.lodge(), 1);
        });
        says("of each number the highest first:", () -> {
            CuckooLodge x = new CuckooLodge();
            x.feed(0x726f6f6d, 0x7320323b, 0x73687574, 0x20313b20, BLANKS);
            due("rooms 2;shut 1;", x.lodge(), 2);
            x.feed(0x6d6f6f72, 0x3b322073, BLANKS, BLANKS, BLANKS);
            due("moor;2 s", x.lodge(), NONE);
            due("numbers below 0", x.feed(0xff202020, BLANKS, BLANKS, BLANKS, BLANKS), 20);
            x.lodge();
            due("the first byte is 255", x.fault(1), 0);
        });
        says("how many there are;", () -> {
            CuckooLodge x = new CuckooLodge();
            for (int k = 1; k <= 80; k++) due("feed " + k, blanks(x), 20 * k);
        });
        says("NONE, refused (0), if there would be more than 1600.", () -> {
            CuckooLodge x = new CuckooLodge();
            for (int k = 0; k < 80; k++) blanks(x);
            due("the 81st", x.feed(0, 0, 0, 0, 0), NONE);
            due("status(0)", x.status(0), 1);
            x.end(1581);
            due("from 1581", x.feed(0, 0, 0, 0, 0), NONE);
            due("status(0) again", x.status(0), 2);
            x.end(1580);
            due("from 1580", blanks(x), 1600);
            due("status(0) stays", x.status(0), 2);
            x.lodge();
            due("nothing of what was refused is there", x.fault(1), 1600);
        });

        DOC.section("Promise 3");
        says("The tape has its first n bytes alone: true;", () -> {
            CuckooLodge x = new CuckooLodge();
            due("none of none", x.end(0), true);
            x.feed(0x726f6f6d, 0x7320323b, 0x7820313b, BLANKS, BLANKS);
            due("all", x.end(20), true);
            due("the first 8", x.end(8), true);
            due("feed behind them", blanks(x), 28);
            due("x is gone", x.lodge(), 1);
            blanks(x);
            due("none of 20", x.end(0), true);
            due("feed behind none", blanks(x), 20);
            due("status(0)", x.status(0), 0);
            // What stood behind the end is no part of the text, were it the rest of a word or a number.
            String text = "rooms 16;lodger ab has 11 12;in ab;rents 10+20;";
            for (int n = 0; n <= text.length(); n++) {
                x = new CuckooLodge();
                Calls.feed(x, text.chars().toArray());
                x.end(n);
                CuckooLodge y = new CuckooLodge();
                due("cut to " + n, x.lodge(), Calls.tell(y, text.substring(0, n)));
                due("cut to " + n + ": fault(0)", x.fault(0), y.fault(0));
                due("cut to " + n + ": fault(1)", x.fault(1), y.fault(1));
            }
        });
        says("false, refused (0), if it has not so many,", () -> {
            CuckooLodge x = new CuckooLodge();
            due("1 of 0", x.end(1), false);
            blanks(x);
            due("21 of 20", x.end(21), false);
            due("GREATEST", x.end(GREATEST), false);
            due("status(0)", x.status(0), 3);
            due("all are there", blanks(x), 40);
        });
        says("or n is below 0.", () -> {
            CuckooLodge x = new CuckooLodge();
            blanks(x);
            due("-1", x.end(-1), false);
            due("LEAST", x.end(LEAST), false);
            due("status(0)", x.status(0), 2);
            due("all are there", blanks(x), 40);
        });
    }

    private static void theLodge() {
        DOC.section("Promise 4");
        says("The tape (it goes) is THE LODGE:", () -> {
            CuckooLodge x = Calls.of("rooms 5;");
            due("it is gone", x.end(1), false);
            due("it is the lodge", x.has(0), 5);
            Calls.tell(x, "rooms 5");
            due("it is gone with a fault, too", x.end(1), false);
        });
        says("how many STATEMENTS;", () -> {
            due("one", Calls.tell(new CuckooLodge(), "rooms 2;"), 1);
            due("five", Calls.tell(new CuckooLodge(), "rooms 2;bench 1;bench 1;knock 3;rents 3;"), 5);
            due("sixty", Calls.tell(new CuckooLodge(), "rooms 2;" + "knock 9;".repeat(59)), 60);
        });
        says("NONE, refused (1), with a FAULT (all stays).", () -> {
            CuckooLodge x = Calls.of(ROUND + "rents 7;");
            x.nights(2);
            x.come(2);
            Calls.meet(x, 0, 0, 0);
            int[] before = Calls.imageOf(x);
            String[] wrong = {"", "rooms 9;bench 6;steps 3;lodger q has 7 8;in q;shut 1;yields all;leaves all;rents 3;x", "rooms 3;shut 3;"};
            for (int k = 0; k < wrong.length; k++) {
                due("<" + wrong[k] + ">", Calls.tell(x, wrong[k]), NONE);
                due("status(1)", x.status(1), k + 1);
            }
            dueHas("stays", x, 2, 3, 2, 1, 0, 0, 0, 2, 28, 1, 10, 10, 1, 2, 1);
            due("the image stays", Arrays.equals(before, Calls.imageOf(x)), true);
            due("the rents stay", x.purse(1), 42);
            due("the names stay", x.letter(0, 0), 1);
            due("the acts stay", x.undo(), true);
        });
        says("Without one all is as at first,", () -> {
            CuckooLodge x = Calls.of("rooms 9;bench 6;steps 3;knock 100;lodger q has 7 8;in q;shut 1;yields not all;leaves all;rents 3;");
            x.nights(3);
            Calls.tell(x, ROUND);
            dueHas("", x, 2, 3, 2, 0, 1, 0, 0, 0, 0, 1, 10);
            due("no test of yields", x.room(0, 4), 1);
            due("no test of leaves, no rents", x.purse(2), 4);
            due("no knock", x.odds(2), 0);
            due("no nights", x.lodger(0, 3), 0);
            x.nights(3);
            x.go(0);
            Calls.tell(x, ROUND);
            dueHas("the same text", x, 2, 3, 2, 0, 1, 0, 0, 0, 0, 1, 10);
            due("still no knock", x.odds(2), 0);
            due("still no rents", x.purse(2), 4);
            // Long texts one behind the other: none is in the way of a later one.
            x = new CuckooLodge();
            for (int k = 0; k < 5; k++) {
                due("a long text", Calls.tell(x, "rooms 9;lodger a has 0 1;in a;yields all;leaves not all;rents 0" + "+1".repeat(60) + "+0".repeat(600) + ";"), 6);
                due("its rents", x.purse(1), 60);
            }
            Calls.tell(x, "rooms 9;lodger a has 7 8;lodger b has 7 8;lodger c has 7 8;in a;in b;in c;steps 1;");
            Calls.tell(x, "rooms 9;lodger a has 0 1;lodger b has 0 1;");
            for (int r = 0; r < 9; r++) due("nobody in room " + r, x.room(r, 0), NONE);
            due("nobody on the bench", x.bench(0), NONE);
            due("both are away", x.chain(0, NONE) + x.chain(1, NONE), 0);
        });
        says("nothing is KEPT or MET,", () -> {
            CuckooLodge x = Calls.of(ROUND);
            x.come(2);
            Calls.meet(x, 0, 0, 255);
            Calls.tell(x, ROUND);
            due("kept", x.has(11), 0);
            due("kept(0, 0)", x.kept(0, 0), NONE);
            due("met", x.has(12), 0);
            due("all steps", x.stepped(2, NONE), 40);
        });
        says("no ACT can be undone;", () -> {
            CuckooLodge x = Calls.of(ROUND);
            x.nights(1);
            Calls.tell(x, ROUND);
            due("has(13)", x.has(13), 0);
            due("undo", x.undo(), false);
        });
        says("the seed stays.", () -> {
            CuckooLodge x = new CuckooLodge();
            x.seed(77);
            Calls.tell(x, ROUND);
            due("has(14)", x.has(14), 77);
        });

        DOC.section("Promise 5");
        says("Of the latest lodge(): its FAULT (what 0;", () -> {
            String[] texts = {"rooms", "rooms 2;lodger a has 0 1;lodger a has 0 1;", "rooms 2;in a;", "rooms 1;", "rooms 2;rents ((((((((1", "rooms 2;rents 1;rents 1;"};
            CuckooLodge x = new CuckooLodge();
            for (int k = 0; k < texts.length; k++) {
                Calls.tell(x, texts[k]);
                due(texts[k], x.fault(0), k + 1);
            }
        });
        says("0 without, and ahead of any),", () -> {
            CuckooLodge x = new CuckooLodge();
            due("ahead of any", x.fault(0), 0);
            Calls.tell(x, "rooms");
            Calls.tell(x, "rooms 2;");
            due("without", x.fault(0), 0);
        });
        says("its place (1;", () -> {
            CuckooLodge x = new CuckooLodge();
            Calls.tell(x, "rooms 2;shut 2;");
            due("fault(1)", x.fault(1), 13);
            x.lodge();
            due("of the latest", x.fault(1), 0);
        });
        says("NONE without).", () -> {
            CuckooLodge x = new CuckooLodge();
            due("ahead of any", x.fault(1), NONE);
            Calls.tell(x, "rooms");
            Calls.tell(x, "rooms 2;");
            due("without", x.fault(1), NONE);
        });
        says("NONE for another what.", () -> {
            CuckooLodge x = new CuckooLodge();
            Calls.tell(x, "rooms 1;");
            for (int what : new int[] {-1, 2, LEAST, GREATEST}) due("fault(" + what + ")", x.fault(what), NONE);
        });
    }

    private static void counts() {
        DOC.section("Promise 6");
        String[] kinds = {"How many there are: 0 ROOMS,", "1 LODGERS,", "2 SLEEPERS,", "3 on the BENCH,", "4 AWAY,", "5 EMPTY ROOMS,", "6 SHUT ones,",
            "7 NIGHT,", "8 the purse,", "9 places on the BENCH,", "10 steps,", "11 told as KEPT,", "12 rows MET,", "13 ACTS that can be undone,", "14 the seed."};
        // a to f: c to f make each other go to the bench, one step a coming.
        int[] want = {8, 7, 3, 2, 2, 2, 3, 6, 54, 5, 1, 1, 4, 3, 99};
        for (int k = 0; k < kinds.length; k++) {
            int what = k;
            says(kinds[k], () -> {
                CuckooLodge x = Calls.of("rooms 8;bench 5;steps 1;lodger a has 0 1;lodger b has 1 0;lodger c has 0 1;lodger d has 2 3;lodger e has 1 0;"
                    + "lodger f has 4 5;lodger g has 6 7;in a;in b;in c;in d;shut 5;shut 6;shut 7;rents 3;");
                x.come(4);
                x.nights(4);
                x.nights(2);
                x.seed(99);
                Calls.meet(x, 0, 0, 0, 0, 0, 0, 0, 0, 0, 0, 0, 0);
                due("has(" + what + ")", x.has(what), want[what]);
            });
        }
        says("Without a lodge all but the last are 0.", () -> {
            CuckooLodge x = new CuckooLodge();
            Calls.tell(x, "rooms 5;steps 3;bench 2;x");
            dueHas("behind a fault", x, 0, 0, 0, 0, 0, 0, 0, 0, 0, 0, 0, 0, 0, 0, 1);
        });
        says("NONE for others.", () -> {
            for (int what : new int[] {-1, 15, LEAST, GREATEST}) due("has(" + what + ")", Calls.of(ROUND).has(what), NONE);
        });

        DOC.section("Promise 7");
        says("Letter k (0 .. 5) of the NAME of a LODGER: 1 .. 26;", () -> {
            CuckooLodge x = Calls.of("rooms 2;lodger azbycx has 0 1;lodger zzzzzz has 0 1;");
            int[] letters = {1, 26, 2, 25, 3, 24};
            for (int k = 0; k < 6; k++) {
                due("letter(0, " + k + ")", x.letter(0, k), letters[k]);
                due("letter(1, " + k + ")", x.letter(1, k), 26);
            }
        });
        says("0 behind it;", () -> {
            CuckooLodge x = Calls.of("rooms 2;lodger q has 0 1;lodger abcde has 0 1;");
            for (int k = 1; k < 6; k++) due("letter(0, " + k + ")", x.letter(0, k), 0);
            due("letter(1, 4)", x.letter(1, 4), 5);
            due("letter(1, 5)", x.letter(1, 5), 0);
        });
        says("NONE when there is none such.", () -> {
            CuckooLodge x = Calls.of("rooms 2;lodger cuckoo has 0 1;");
            int[][] rows = {{0, 6}, {0, -1}, {1, 0}, {-1, 0}, {0, GREATEST}, {LEAST, 0}};
            for (int[] row : rows) due("letter(" + row[0] + ", " + row[1] + ")", x.letter(row[0], row[1]), NONE);
        });

        DOC.section("Promise 8");
        says("Of a ROOM: 0 its SLEEPER (NONE),", () -> {
            CuckooLodge x = Calls.of("rooms 3;lodger a has 0 1;lodger b has 1 2;in b;");
            due("nobody", x.room(0, 0), NONE);
            due("b", x.room(1, 0), 1);
        });
        says("1 whether SHUT,", () -> {
            CuckooLodge x = Calls.of("rooms 3;shut 1;");
            due("not", x.room(0, 1), 0);
            due("shut", x.room(1, 1), 1);
        });
        says("2 whether FREE,", () -> {
            CuckooLodge x = Calls.of("rooms 3;shut 1;lodger a has 0 1;in a;");
            due("taken", x.room(0, 2), 0);
            due("shut", x.room(1, 2), 0);
            due("free", x.room(2, 2), 1);
        });
        says("3 how many LODGERS have it,", () -> {
            CuckooLodge x = Calls.of("rooms 4;lodger a has 0 1;lodger b has 1 0;lodger c has 1 3;");
            int[] want3 = {2, 3, 0, 1};
            for (int room = 0; room < 4; room++) due("room(" + room + ", 3)", x.room(room, 3), want3[room]);
        });
        says("4 whether its SLEEPER would YIELD now to one who CAME into it", () -> {
            CuckooLodge x = Calls.of(ROUND + "yields step=0 and nights=0 and room=1 or night=1;");
            due("not he", x.room(0, 4), 0);
            due("he", x.room(1, 4), 1);
            x.nights(1);
            due("now he, too", x.room(0, 4), 1);
            x.nights(1);
            due("now neither", x.room(1, 4), 0);
            due("without a test", Calls.of(ROUND + "steps 1;").room(1, 4), 1);
        });
        says("(0 without one).", () -> {
            CuckooLodge x = Calls.of("rooms 3;lodger a has 0 1;in a;shut 2;yields all;");
            due("free", x.room(1, 4), 0);
            due("shut", x.room(2, 4), 0);
        });
        says("NONE when there is none such,", () -> {
            for (int room : new int[] {-1, 2, LEAST, GREATEST}) {
                for (int what = 0; what < 5; what++) due("room(" + room + ", " + what + ")", Calls.of(ROUND).room(room, what), NONE);
            }
        });
        says("or for others.", () -> {
            for (int what : new int[] {-1, 5, LEAST, GREATEST}) due("room(0, " + what + ")", Calls.of(ROUND).room(0, what), NONE);
        });

        DOC.section("Promise 9");
        says("Of a LODGER: 0 his FIRST ROOM, 1 his OTHER one,", () -> {
            CuckooLodge x = Calls.of("rooms 16;lodger a has 15 0;lodger b has 0 15;");
            due("a", x.lodger(0, 0) * 100 + x.lodger(0, 1), 1500);
            due("b", x.lodger(1, 0) * 100 + x.lodger(1, 1), 15);
        });
        says("2 the ROOM in which he sleeps (NONE: none),", () -> {
            CuckooLodge x = Calls.of(FULL);
            int[] rooms = {0, 1, NONE, NONE, NONE};
            for (int l = 0; l < 5; l++) due("lodger(" + l + ", 2)", x.lodger(l, 2), rooms[l]);
        });
        says("3 for how many NIGHTS,", () -> {
            CuckooLodge x = Calls.of(FULL);
            due("now", x.lodger(0, 3), 0);
            x.nights(40);
            due("forty", x.lodger(0, 3), 40);
            due("on the bench", x.lodger(2, 3), 0);
            x.go(0);
            due("away", x.lodger(0, 3), 0);
        });
        says("4 his place on the BENCH (0 and on; NONE).", () -> {
            CuckooLodge x = Calls.of(FULL + "bench 2;in e;");
            int[] places = {NONE, NONE, 0, NONE, 1};
            for (int l = 0; l < 5; l++) due("lodger(" + l + ", 4)", x.lodger(l, 4), places[l]);
            x.go(2);
            due("one less ahead of him", x.lodger(4, 4), 0);
            due("who went", x.lodger(2, 4), NONE);
        });
        says("NONE when there is none such,", () -> {
            for (int lodger : new int[] {-1, 3, LEAST, GREATEST}) {
                for (int what = 0; what < 5; what++) due("lodger(" + lodger + ", " + what + ")", Calls.of(ROUND).lodger(lodger, what), NONE);
            }
        });
        says("or for others.", () -> {
            for (int what : new int[] {-1, 5, LEAST, GREATEST}) due("lodger(0, " + what + ")", Calls.of(ROUND).lodger(0, what), NONE);
        });

        DOC.section("Promise 10");
        says("Who is on the BENCH in place k (from 0 on);", () -> {
            CuckooLodge x = Calls.of(FULL + "bench 6;in e;in d;");
            int[] bench = {2, 4, 3};
            for (int k = 0; k < 3; k++) due("bench(" + k + ")", x.bench(k), bench[k]);
        });
        says("NONE when there is none such.", () -> {
            CuckooLodge x = Calls.of(FULL + "bench 6;in e;in d;");
            for (int k : new int[] {-1, 3, 5, 6, LEAST, GREATEST}) due("bench(" + k + ")", x.bench(k), NONE);
            x.go(3);
            due("behind one who went", x.bench(2), NONE);
            due("without a lodge", new CuckooLodge().bench(0), NONE);
        });
    }

    private static void aheadOfNow() {
        DOC.section("Promise 11");
        says("A CHAIN of a LODGER: how many (k NONE),", () -> {
            due("three", Calls.of(ROW).chain(3, NONE), 3);
            due("forty", Calls.of(ROUND + "steps 40;").chain(2, NONE), 40);
            due("none", Calls.of("rooms 2;lodger a has 0 1;").chain(0, NONE), 0);
        });
        says("the k-th.", () -> {
            CuckooLodge x = Calls.of(ROUND + "steps 40;");
            for (int k = 0; k < 40; k++) due("chain(2, " + k + ")", x.chain(2, k), k % 3);
        });
        says("NONE when he is not AWAY,", () -> {
            CuckooLodge x = Calls.of(FULL);
            due("a sleeper", x.chain(0, NONE), NONE);
            due("one on the bench", x.chain(2, NONE), NONE);
            due("one who is away", x.chain(3, NONE), 0);
        });
        says("or there is none such.", () -> {
            CuckooLodge x = Calls.of(ROW);
            for (int lodger : new int[] {-1, 4, LEAST, GREATEST}) due("chain(" + lodger + ", NONE)", x.chain(lodger, NONE), NONE);
            for (int k : new int[] {-2, 3, LEAST, GREATEST}) due("chain(3, " + k + ")", x.chain(3, k), NONE);
        });

        DOC.section("Promise 12");
        says("The SLEEPER of a ROOM behind n NIGHTS AHEAD (0 .. 40);", () -> {
            CuckooLodge x = Calls.of(FULL + "leaves nights>38 and room=0;");
            due("now", x.later(0, 0), 0);
            due("behind 38", x.later(0, 38), 0);
            due("behind 39", x.later(0, 39), NONE);
            due("behind 40", x.later(0, 40), 2);
            due("the other room behind 40", x.later(1, 40), 1);
            due("nothing happened", x.has(7) + x.has(13), 0);
        });
        says("NONE when nobody is in it,", () -> {
            CuckooLodge x = Calls.of("rooms 3;lodger a has 0 1;in a;shut 2;leaves nights>1;");
            due("a free one", x.later(1, 0), NONE);
            due("a shut one", x.later(2, 5), NONE);
            due("one left", x.later(0, 2), NONE);
        });
        says("there is none such,", () -> {
            for (int room : new int[] {-1, 2, LEAST, GREATEST}) due("later(" + room + ", 0)", Calls.of(ROUND).later(room, 0), NONE);
        });
        says("or n can't be.", () -> {
            for (int n : new int[] {-1, 41, LEAST, GREATEST}) due("later(0, " + n + ")", Calls.of(ROUND).later(0, n), NONE);
            CuckooLodge x = inNight(999);
            due("in night 999", x.later(0, 0), 0);
            due("beyond", x.later(0, 1), NONE);
            due("beyond, GREATEST", x.later(0, GREATEST), NONE);
        });

        DOC.section("Promise 13");
        says("Behind how many NIGHTS AHEAD (0: now;", () -> {
            CuckooLodge x = Calls.of(FULL + "leaves nights>2;");
            due("now", x.sleeps(0), 0);
            due("behind four", x.sleeps(2), 4);
            x.go(0);
            due("behind one", x.sleeps(2), 1);
        });
        says("40 at most) a LODGER is a SLEEPER;", () -> {
            due("40", Calls.of(FULL + "leaves nights>38;").sleeps(2), 40);
            due("41", Calls.of(FULL + "leaves nights>39;").sleeps(2), NONE);
        });
        says("NONE when he is not,", () -> {
            CuckooLodge x = Calls.of(FULL + "knock 100;");
            due("never", x.sleeps(2), NONE);
            due("away", x.sleeps(3), NONE);
            x = Calls.of(FULL + "leaves nights>2;");
            due("to night 996", on(x, 3, 228, 0, 0, 0, 0, 0, 0, 0, 1, 0, 254, 0, 255, 0, 255, 0, 1, 2), true);
            due("beyond night 999", x.sleeps(2), NONE);
            due("to night 995", on(x, 3, 227, 0, 0, 0, 0, 0, 0, 0, 1, 0, 254, 0, 255, 0, 255, 0, 1, 2), true);
            due("just in night 999", x.sleeps(2), 4);
            due("a sleeper in night 999", inNight(999).sleeps(0), 0);
        });
        says("or there is none such.", () -> {
            for (int lodger : new int[] {-1, 3, LEAST, GREATEST}) due("sleeps(" + lodger + ")", Calls.of(ROUND).sleeps(lodger), NONE);
        });

        DOC.section("Promise 14");
        says("The purse behind n NIGHTS AHEAD (0 .. 40);", () -> {
            CuckooLodge x = Calls.of("rooms 2;lodger a has 0 1;in a;rents 1+night;");
            due("now", x.purse(0), 0);
            due("behind 3", x.purse(3), 6);
            due("behind 40", x.purse(40), 820);
            x.nights(2);
            due("then now", x.purse(0), 3);
            due("then behind 1", x.purse(1), 6);
            due("nothing happened", x.has(8), 3);
        });
        says("NONE when n can't be,", () -> {
            for (int n : new int[] {-1, 41, LEAST, GREATEST}) due("purse(" + n + ")", Calls.of(ROUND).purse(n), NONE);
            CuckooLodge x = inNight(998);
            due("to night 999", x.purse(1), 1);
            due("beyond", x.purse(2), NONE);
        });
        says("or without a lodge.", () -> {
            due("now", new CuckooLodge().purse(0), NONE);
            due("behind 1", new CuckooLodge().purse(1), NONE);
        });
    }

    private static void sets() {
        // a, b, c for rooms 0 and 1; d between 1 and 2; e for 3 and 4.
        String five = "rooms 5;lodger a has 0 1;lodger b has 1 0;lodger c has 0 1;lodger d has 1 2;lodger e has 3 4;";
        DOC.section("Promise 15");
        says("How many of a set can SLEEP TOGETHER at the most;", () -> {
            CuckooLodge x = Calls.of(five);
            int[][] rows = {{0, 0}, {1, 1}, {3, 2}, {7, 2}, {11, 3}, {15, 3}, {31, 4}, {16, 1}};
            for (int[] row : rows) due("most(" + row[0] + ")", x.most(row[0]), row[1]);
            due("nobody, without a lodge", new CuckooLodge().most(0), 0);
        });
        says("NONE when there is none such (below 0,", () -> {
            due("-1", Calls.of(five).most(-1), NONE);
            due("LEAST", Calls.of(five).most(LEAST), NONE);
        });
        says("a LODGER that there is not).", () -> {
            for (int set : new int[] {32, 33, 63, 64, 1 << 16, 1 << 30, GREATEST}) due("most(" + set + ")", Calls.of(five).most(set), NONE);
            due("without a lodge", new CuckooLodge().most(1), NONE);
        });

        DOC.section("Promise 16");
        says("In how many ways all of a set can SLEEP TOGETHER, each in one of his ROOMS", () -> {
            CuckooLodge x = Calls.of(five);
            int[][] rows = {{1, 2}, {3, 2}, {9, 3}, {11, 2}, {17, 4}, {25, 6}, {27, 4}};
            for (int[] row : rows) due("ways(" + row[0] + ")", x.ways(row[0]), row[1]);
            x.shut(2, 1);
            due("d in 1 alone", x.ways(8), 1);
            due("then a in 0 alone", x.ways(9), 1);
            due("and e as he likes", x.ways(25), 2);
        });
        says("(0 when they cannot;", () -> {
            CuckooLodge x = Calls.of(five);
            due("three for two rooms", x.ways(7), 0);
            due("one too many of all", x.ways(31), 0);
            x.shut(3, 1);
            x.shut(4, 1);
            due("one without a room", x.ways(16), 0);
        });
        says("1 for nobody);", () -> {
            due("ways(0)", Calls.of(five).ways(0), 1);
            due("ways(0) without lodgers", Calls.of("rooms 2;").ways(0), 1);
            due("ways(0) without a lodge", new CuckooLodge().ways(0), 1);
        });
        says("NONE when there is none such.", () -> {
            for (int set : new int[] {-1, LEAST, 32, 1 << 16, GREATEST}) due("ways(" + set + ")", Calls.of(five).ways(set), NONE);
        });

        DOC.section("Promise 17");
        says("TURNED AWAY of a set, as bits;", () -> {
            CuckooLodge x = Calls.of(five);
            int[][] rows = {{0, 0}, {11, 0}, {7, 1}, {15, 1}, {31, 1}, {6, 0}};
            for (int[] row : rows) due("turned(" + row[0] + ")", x.turned(row[0]), row[1]);
            x.shut(0, 1);
            due("with room 0 shut", x.turned(31), 3);
        });
        says("NONE when there is none such.", () -> {
            for (int set : new int[] {-1, LEAST, 32, 1 << 16, GREATEST}) due("turned(" + set + ")", Calls.of(five).turned(set), NONE);
        });

        DOC.section("Promise 18");
        says("A CROWD, as bits;", () -> {
            CuckooLodge x = Calls.of(five);
            due("a, b, c", x.crowd(), 7);
            x.shut(0, 1);
            due("a, b", x.crowd(), 3);
            x.shut(1, 1);
            due("a", x.crowd(), 1);
        });
        says("NONE when all can SLEEP TOGETHER.", () -> {
            due("as many as rooms", Calls.of("rooms 3;lodger a has 0 1;lodger b has 1 2;lodger c has 2 0;").crowd(), NONE);
            due("nobody", Calls.of("rooms 3;").crowd(), NONE);
            due("without a lodge", new CuckooLodge().crowd(), NONE);
        });

        DOC.section("Promise 19");
        says("To CLEAR a ROOM: how many SLEEPERS;", () -> {
            CuckooLodge x = Calls.of(ROW);
            for (int room = 0; room < 4; room++) due("clear(" + room + ")", x.clear(room), 3 - room);
            due("nothing happened", x.room(0, 0), 0);
        });
        says("NONE when it can't be,", () -> {
            CuckooLodge x = Calls.of(ROUND);
            due("two in each other's way", x.clear(0), NONE);
            due("and so the other", x.clear(1), NONE);
        });
        says("it is SHUT,", () -> {
            CuckooLodge x = Calls.of("rooms 3;shut 2;lodger a has 0 2;in a;");
            due("shut", x.clear(2), NONE);
            due("another than that there is not", x.clear(0), NONE);
            x.shut(2, 0);
            due("opened", x.clear(2), 0);
        });
        says("or there is none such.", () -> {
            for (int room : new int[] {-1, 4, 16, 32, LEAST, GREATEST}) due("clear(" + room + ")", Calls.of(ROW).clear(room), NONE);
            due("without a lodge", new CuckooLodge().clear(0), NONE);
        });

        DOC.section("Promise 20");
        says("To MOVE for a LODGER: how many SLEEPERS;", () -> {
            due("two", Calls.of(ROW).moves(3), 2);
            due("none", Calls.of("rooms 2;lodger a has 0 1;").moves(0), 0);
        });
        says("NONE when it can't be,", () -> {
            due("all in each other's way", Calls.of(ROUND).moves(2), NONE);
            due("all is shut", Calls.of("rooms 2;lodger a has 0 1;shut 0;shut 1;").moves(0), NONE);
        });
        says("he is a SLEEPER,", () -> {
            CuckooLodge x = Calls.of("rooms 2;lodger a has 0 1;in a;");
            due("a sleeper", x.moves(0), NONE);
            x.go(0);
            due("away", x.moves(0), 0);
        });
        says("or there is none such.", () -> {
            for (int lodger : new int[] {-1, 4, 16, LEAST, GREATEST}) due("moves(" + lodger + ")", Calls.of(ROW).moves(lodger), NONE);
        });

        DOC.section("Promise 21");
        says("ODDS of a LODGER;", () -> {
            CuckooLodge x = Calls.of("rooms 2;steps 1;knock 40;lodger a has 0 1;lodger b has 1 0;lodger c has 0 1;in a;in b;");
            due("a", x.odds(0), 260);
            due("b", x.odds(1), 300);
            due("c", x.odds(2), 40);
            due("nothing happened", x.has(7) + x.has(11) + x.has(13), 0);
            due("no draw", x.has(14), 1);
        });
        says("all rows for the LODGER NONE.", () -> {
            due("three", Calls.of(ROUND).odds(NONE), 300);
            due("one", Calls.of("rooms 2;lodger a has 0 1;").odds(NONE), 100);
        });
        says("NONE when there is none such,", () -> {
            for (int lodger : new int[] {-2, 3, LEAST, GREATEST}) due("odds(" + lodger + ")", Calls.of(ROUND).odds(lodger), NONE);
        });
        says("without LODGERS,", () -> {
            due("rooms alone", Calls.of("rooms 2;knock 5;").odds(NONE), NONE);
            due("without a lodge", new CuckooLodge().odds(NONE), NONE);
        });
        says("or beyond NIGHT 999.", () -> {
            CuckooLodge x = inNight(998);
            due("to night 999", x.odds(0), 100);
            x.nights(1);
            due("beyond", x.odds(0), NONE);
            due("beyond, all rows", x.odds(NONE), NONE);
        });
    }

    private static void steps() {
        DOC.section("Promise 22");
        says("The tape (it goes) tells MET,", () -> {
            CuckooLodge x = Calls.of(ROUND);
            due("one row", Calls.meet(x, 0, 0, 1), 1);
            due("it is gone", x.end(1), false);
            due("b is in 0 by 3 steps first", x.stepped(2, 0), 3);
            due("another", Calls.meet(x, 0, 0, 0), 1);
            due("the latest counts, a by 5 first", x.stepped(2, 0), 5);
            due("refused", Calls.meet(x, 0, 0), NONE);
            due("it is gone, too", x.end(1), false);
        });
        says("1 to 16 rows of three bytes: how many rows;", () -> {
            CuckooLodge x = Calls.of(ROUND);
            for (int rows = 1; rows <= 16; rows++) {
                due(rows + " rows", Calls.meet(x, new int[3 * rows]), rows);
                due("has(12)", x.has(12), rows);
            }
            int[] last = new int[48];
            last[47] = 255;
            Calls.meet(x, last);
            due("the last row counts", x.stepped(2, NONE), 0);
        });
        says("NONE, refused (5), when it is none such.", () -> {
            CuckooLodge x = Calls.of(ROUND);
            Calls.meet(x, 0, 0, 2);
            int[][] wrong = {{}, {0}, {0, 0}, {0, 0, 2, 0}, {0, 0, 2, 0, 0}, new int[50], new int[51], new int[52], {31, 0, 0}, {255, 0, 0}, {0, 2, 0}, {0, 255, 0},
                {0, 0, 3}, {0, 0, 254}, {0, 0, 0, 0, 0, 3}, {0, 0, 3, 0, 0, 0}};
            for (int k = 0; k < wrong.length; k++) {
                due("meet " + Arrays.toString(wrong[k]), Calls.meet(x, wrong[k]), NONE);
                due("status(5)", x.status(5), k + 1);
            }
            due("what was met stays", x.stepped(2, NONE), 14);
            due("without a lodge", Calls.meet(new CuckooLodge(), 0, 0, 255), NONE);
        });

        DOC.section("Promise 23");
        says("STEPS by MET, a LODGER COMING first", () -> {
            CuckooLodge x = Calls.of("rooms 2;lodger a has 0 1;lodger b has 1 0;lodger c has 0 1;lodger d has 1 0;in a;in b;");
            Calls.meet(x, 0, 0, 2);
            due("c comes", x.stepped(2, 0), 1);
            due("d comes", x.stepped(3, NONE), 0);
            due("nobody came", x.has(4), 2);
        });
        says("(of the latest meet() of this LODGE that was not refused;", () -> {
            CuckooLodge x = Calls.of(ROUND);
            Calls.meet(x, 0, 0, 2);
            Calls.meet(x, 0, 0, 2, 0, 1, 1);
            due("the latest", x.stepped(2, NONE), 7);
            Calls.meet(x, 0, 0, 9);
            due("not the refused one", x.stepped(2, NONE), 7);
            x.nights(1);
            x.undo();
            due("acts leave it", x.stepped(2, NONE), 7);
            due("on", Calls.on(x, Calls.imageOf(x)), true);
            due("so does an image", x.stepped(2, NONE), 7);
            Calls.tell(x, "rooms");
            due("so does a lodge that was refused", x.stepped(2, NONE), 7);
            Calls.tell(x, ROUND);
            due("not of another lodge", x.stepped(2, NONE), 40);
        });
        says("all, if there was none;", () -> {
            CuckooLodge x = Calls.of(ROUND);
            due("forty", x.stepped(2, NONE), 40);
            due("in night 999, too", on(x, 3, 231, 0, 0, 0, 0, 0, 0, 0, 1, 0, 255, 0, 0), true);
            due("forty then", x.stepped(2, NONE), 40);
        });
        says("NIGHTS beyond 999 are by none):", () -> {
            CuckooLodge x = Calls.of(ROUND + "yields not all;");
            on(x, 3, 229, 0, 0, 0, 0, 0, 0, 0, 1, 0, 255, 0, 0);
            Calls.meet(x, 2, 0, 0);
            due("night 999", x.stepped(2, NONE), 40);
            Calls.meet(x, 3, 0, 0);
            due("night 1000", x.stepped(2, NONE), 0);
            Calls.meet(x, 0, 0, 0, 30, 0, 0);
            due("one of two rows", x.stepped(2, NONE), 0);
        });
        says("how many (k NONE),", () -> {
            CuckooLodge x = Calls.of(ROUND);
            Calls.meet(x, 0, 0, 2);
            due("14", x.stepped(2, NONE), 14);
            Calls.meet(x, 0, 0, 255);
            due("none", x.stepped(2, NONE), 0);
        });
        says("the k-th, rising.", () -> {
            CuckooLodge x = Calls.of(ROUND);
            for (int k = 0; k < 40; k++) due("of all " + k, x.stepped(2, k), k + 1);
            Calls.meet(x, 0, 0, 2);
            for (int k = 0; k < 14; k++) due("with c in 0 " + k, x.stepped(2, k), k / 2 * 6 + k % 2 + 1);
        });
        says("NONE when there is none such,", () -> {
            CuckooLodge x = Calls.of(ROUND);
            for (int lodger : new int[] {-1, 3, LEAST, GREATEST}) due("stepped(" + lodger + ", NONE)", x.stepped(lodger, NONE), NONE);
            for (int k : new int[] {-2, 40, LEAST, GREATEST}) due("stepped(2, " + k + ")", x.stepped(2, k), NONE);
            Calls.meet(x, 0, 0, 2);
            due("the 15th of 14", x.stepped(2, 14), NONE);
        });
        says("or he is not AWAY.", () -> {
            CuckooLodge x = Calls.of(FULL);
            due("a sleeper", x.stepped(0, NONE), NONE);
            due("one on the bench", x.stepped(2, NONE), NONE);
            due("one who is away", x.stepped(3, NONE), 40);
        });

        DOC.section("Promise 24");
        says("TELLING, a LODGER COMING first: the number of NIGHTS (what 0), the ROOM (1), how many STEPS are left at the most (2).", () -> {
            CuckooLodge x = Calls.of("rooms 3;lodger a has 2 1;in a;lodger b has 2 0;in b;lodger c has 0 1;in c;lodger d has 2 0;leaves night=3;");
            due("nights", x.tells(3, 0), 5);
            due("room", x.tells(3, 1), 2);
            due("left", x.tells(3, 2), 10);
            due("nothing happened", x.has(7) + x.has(12) + x.has(13), 0);
        });
        says("NONE without any left,", () -> {
            CuckooLodge x = Calls.of(ROUND);
            Calls.meet(x, 0, 0, 255);
            for (int what = 0; what < 3; what++) due("tells(2, " + what + ")", x.tells(2, what), NONE);
            Calls.meet(x, 0, 0, 2);
            due("some left", x.tells(2, 1), 1);
            Calls.meet(x, 0, 0, 255);
            for (int what = 0; what < 3; what++) due("again tells(2, " + what + ")", x.tells(2, what), NONE);
        });
        says("when there is none such,", () -> {
            for (int lodger : new int[] {-1, 3, LEAST, GREATEST}) {
                for (int what = 0; what < 3; what++) due("tells(" + lodger + ", " + what + ")", Calls.of(ROUND).tells(lodger, what), NONE);
            }
        });
        says("he is not AWAY,", () -> {
            for (int what = 0; what < 3; what++) {
                due("a sleeper", Calls.of(FULL).tells(0, what), NONE);
                due("one on the bench", Calls.of(FULL).tells(2, what), NONE);
            }
            due("one who is away", Calls.of(FULL).tells(3, 2), 40);
        });
        says("or for others.", () -> {
            for (int what : new int[] {-1, 3, LEAST, GREATEST}) due("tells(2, " + what + ")", Calls.of(ROUND).tells(2, what), NONE);
        });
    }

    private static void acts() {
        DOC.section("Promise 25");
        says("A LODGER COMES: how many were PUT OUT;", () -> {
            CuckooLodge x = Calls.of(ROW);
            due("three", x.come(3), 3);
            due("he sleeps", x.lodger(3, 2), 0);
            due("none", Calls.of("rooms 2;lodger a has 0 1;").come(0), 0);
            due("forty", Calls.of(ROUND + "steps 40;").come(2), 40);
        });
        says("NONE, refused (3), when he is not AWAY,", () -> {
            CuckooLodge x = Calls.of(FULL);
            due("a sleeper", x.come(0), NONE);
            due("one on the bench", x.come(2), NONE);
            due("status(3)", x.status(3), 2);
            due("no act", x.has(13), 0);
        });
        says("or there is none such.", () -> {
            CuckooLodge x = Calls.of(ROW);
            for (int lodger : new int[] {-1, 4, LEAST, GREATEST}) due("come(" + lodger + ")", x.come(lodger), NONE);
            due("status(3)", x.status(3), 4);
            due("no act", x.has(13), 0);
        });

        DOC.section("Promise 26");
        says("A LODGER goes AWAY: true;", () -> {
            CuckooLodge x = Calls.of(FULL);
            due("a sleeper", x.go(0), true);
            due("his room is free", x.room(0, 2), 1);
            due("one on the bench", x.go(2), true);
            due("his place is free", x.has(3), 0);
            due("both are away", x.has(4), 4);
        });
        says("false, refused (3), when he is AWAY,", () -> {
            CuckooLodge x = Calls.of(FULL);
            due("away", x.go(3), false);
            x.go(0);
            due("away again", x.go(0), false);
            due("status(3)", x.status(3), 2);
            due("acts", x.has(13), 1);
        });
        says("or there is none such.", () -> {
            CuckooLodge x = Calls.of(ROW);
            for (int lodger : new int[] {-1, 4, LEAST, GREATEST}) due("go(" + lodger + ")", x.go(lodger), false);
            due("status(3)", x.status(3), 4);
            due("no act", x.has(13), 0);
        });

        DOC.section("Promise 27");
        says("A ROOM is SHUT (on 1), or opened (0): true;", () -> {
            CuckooLodge x = Calls.of("rooms 3;");
            due("shut", x.shut(2, 1), true);
            due("it is", x.room(2, 1), 1);
            due("the others are not", x.has(6), 1);
            due("opened", x.shut(2, 0), true);
            due("it is open", x.room(2, 1), 0);
        });
        says("false, refused (3), when it is not FREE,", () -> {
            CuckooLodge x = Calls.of("rooms 3;lodger a has 0 1;in a;shut 2;");
            due("a sleeper's", x.shut(0, 1), false);
            due("one that is shut", x.shut(2, 1), false);
            due("status(3)", x.status(3), 2);
            due("still shut", x.room(2, 1), 1);
            due("no act", x.has(13), 0);
        });
        says("or not SHUT,", () -> {
            CuckooLodge x = Calls.of("rooms 3;lodger a has 0 1;in a;shut 2;");
            due("a sleeper's", x.shut(0, 0), false);
            due("a free one", x.shut(1, 0), false);
            due("status(3)", x.status(3), 2);
            due("still open", x.room(1, 1), 0);
        });
        says("there is none such,", () -> {
            CuckooLodge x = Calls.of("rooms 3;");
            for (int room : new int[] {-1, 3, 16, 32, LEAST, GREATEST}) {
                due("shut(" + room + ", 1)", x.shut(room, 1), false);
                due("shut(" + room + ", 0)", x.shut(room, 0), false);
            }
            due("status(3)", x.status(3), 12);
        });
        says("or for others.", () -> {
            CuckooLodge x = Calls.of("rooms 3;shut 2;");
            for (int on : new int[] {-1, 2, LEAST, GREATEST}) {
                due("shut(1, " + on + ")", x.shut(1, on), false);
                due("shut(2, " + on + ")", x.shut(2, on), false);
            }
            due("status(3)", x.status(3), 8);
            due("as many as ahead", x.has(6), 1);
        });

        DOC.section("Promise 28");
        says("n NIGHTS go by (1 .. 40), without DRAWS:", () -> {
            CuckooLodge x = Calls.of("rooms 2;lodger a has 0 1;knock 100;");
            x.nights(1);
            due("one", x.has(7), 1);
            x.nights(40);
            due("forty", x.has(7), 41);
            due("nobody came", x.has(2), 0);
            due("the seed", x.has(14), 1);
        });
        says("how much was paid;", () -> {
            CuckooLodge x = Calls.of(ROUND + "rents 3+night;");
            due("one night", x.nights(1), 6);
            due("three", x.nights(3), 2 * (4 + 5 + 6));
            due("in the purse", x.has(8), 36);
            due("nobody pays", Calls.of("rooms 2;").nights(40), 0);
        });
        says("NONE, refused (2), when it can't be (beyond NIGHT 999,", () -> {
            CuckooLodge x = Calls.of(ROUND);
            for (int n : new int[] {0, -1, 41, LEAST, GREATEST}) due("nights(" + n + ")", x.nights(n), NONE);
            due("status(2)", x.status(2), 5);
            due("no act", x.has(13) + x.has(7), 0);
            x = inNight(960);
            due("to 1000", x.nights(40), NONE);
            due("status(2) there", x.status(2), 1);
            due("to 999", x.nights(39), 39);
            due("one more", x.nights(1), NONE);
        });
        says("without a lodge).", () -> {
            CuckooLodge x = new CuckooLodge();
            due("nights(1)", x.nights(1), NONE);
            due("status(2)", x.status(2), 1);
            due("the night", x.has(7), 0);
        });

        DOC.section("Promise 29");
        says("n NIGHTS by the seed (1 .. 40), one ACT:", () -> {
            CuckooLodge x = Calls.of("rooms 2;lodger a has 0 1;knock 100;");
            x.chance(1);
            due("one", x.has(7), 1);
            x.chance(40);
            due("forty", x.has(7), 41);
            due("two acts", x.has(13), 2);
            due("undone", x.undo(), true);
            due("at once", x.has(7), 1);
        });
        says("how many COME;", () -> {
            CuckooLodge x = Calls.of("rooms 2;lodger a has 0 1;knock 100;leaves all;");
            due("each night", x.chance(40), 40);
            x = Calls.of("rooms 2;lodger a has 0 1;knock 100;");
            due("once", x.chance(40), 1);
            // From 1 on DRAWS of 100 are 18, 99, 26, 80, 16.
            x = Calls.of("rooms 2;knock 19;");
            due("nobody", x.chance(5), 0);
        });
        says("NONE, refused (2), when it can't be.", () -> {
            CuckooLodge x = Calls.of(ROUND);
            for (int n : new int[] {0, -1, 41, LEAST, GREATEST}) due("chance(" + n + ")", x.chance(n), NONE);
            due("status(2)", x.status(2), 5);
            due("no act, no draw", x.has(13) + x.has(7) + x.has(14), 1);
            x = inNight(960);
            due("to 1000", x.chance(40), NONE);
            due("to 999", x.chance(39), 0);
            due("one more", x.chance(1), NONE);
            due("without a lodge", new CuckooLodge().chance(1), NONE);
        });

        DOC.section("Promise 30");
        says("The latest ACT is undone: all is as it was ahead of it", () -> {
            String text = ROW + "rents 5;";
            Runnable[] each = new Runnable[6];
            CuckooLodge[] held = {Calls.of(text)};
            each[0] = () -> held[0].come(3);
            each[1] = () -> held[0].nights(3);
            each[2] = () -> held[0].go(1);
            each[3] = () -> held[0].shut(3, 1);
            each[4] = () -> held[0].shut(0, 0);
            each[5] = () -> held[0].chance(5);
            for (int k = 0; k < each.length; k++) {
                CuckooLodge x = k == 4 ? Calls.of(text.replace("in a;in b;in c;", "in b;shut 0;")) : Calls.of(text.replace("in c;", "in c;knock 100;"));
                held[0] = x;
                int[] before = Calls.imageOf(x);
                each[k].run();
                due("act " + k + " did something", Arrays.equals(before, Calls.imageOf(x)), false);
                due("undo " + k, x.undo(), true);
                due("all is as it was " + k, Arrays.equals(before, Calls.imageOf(x)), true);
                due("nothing is kept " + k, x.has(11), 0);
                due("no act is left " + k, x.has(13), 0);
            }
            // What is kept is as it was, too, with those that had fallen out of the last 40.
            CuckooLodge kept = Calls.of(ROUND + "steps 30;bench 0;");
            kept.nights(3);
            kept.come(2);
            kept.nights(1);
            kept.come(2);
            due("forty", kept.has(11), 40);
            kept.undo();
            due("thirty again", kept.has(11), 30);
            for (int k = 0; k < 30; k++) due("kept(" + k + ", .)", kept.kept(k, 0) * 100 + kept.kept(k, 1) * 10 + kept.kept(k, 2), 300 + k % 3 * 10 + k % 2);
            kept.undo();
            kept.undo();
            due("none again", kept.has(11), 0);
        });
        says("(but the seed): true;", () -> {
            CuckooLodge x = Calls.of(ROUND);
            x.chance(1);
            due("undo", x.undo(), true);
            due("the seed", x.has(14), 1103527590);
            x.nights(1);
            x.seed(5);
            x.undo();
            due("a told seed", x.has(14), 5);
        });
        says("false, refused (4), when none can be.", () -> {
            CuckooLodge x = Calls.of(ROUND);
            due("none", x.undo(), false);
            due("status(4)", x.status(4), 1);
            x.nights(1);
            x.undo();
            due("none more", x.undo(), false);
            due("status(4) again", x.status(4), 2);
            due("without a lodge", new CuckooLodge().undo(), false);
        });

        DOC.section("Promise 31");
        says("The seed: true;", () -> {
            CuckooLodge x = new CuckooLodge();
            for (int seed : new int[] {5, 0, GREATEST}) {
                due("seed(" + seed + ")", x.seed(seed), true);
                due("has(14)", x.has(14), seed);
            }
            due("status(5)", x.status(5), 0);
        });
        says("false, refused (5), when it is below 0.", () -> {
            CuckooLodge x = new CuckooLodge();
            due("-1", x.seed(-1), false);
            due("LEAST", x.seed(LEAST), false);
            due("it stays", x.has(14), 1);
            due("status(5)", x.status(5), 2);
        });

        DOC.section("Promise 32");
        says("Of what is told as KEPT, the k-th from the oldest on: 0 NIGHT, 1 LODGER, 2 ROOM.", () -> {
            CuckooLodge x = Calls.of(ROUND + "steps 30;bench 0;");
            x.nights(3);
            x.come(2);
            x.nights(1);
            // 30 put out are a, b, c ten times: c is away.
            x.come(2);
            for (int k = 0; k < 40; k++) {
                due("kept(" + k + ", 0)", x.kept(k, 0), k < 10 ? 3 : 4);
                due("kept(" + k + ", 1)", x.kept(k, 1), (k + 20) % 30 % 3);
                due("kept(" + k + ", 2)", x.kept(k, 2), k % 2);
            }
        });
        says("NONE when there is none such,", () -> {
            CuckooLodge x = Calls.of(ROW);
            due("none", x.kept(0, 0), NONE);
            x.come(3);
            for (int k : new int[] {-1, 3, 40, LEAST, GREATEST}) due("kept(" + k + ", 0)", x.kept(k, 0), NONE);
            x = Calls.of(ROUND + "steps 40;");
            x.come(2);
            due("the 40th", x.kept(39, 1), 0);
            due("the 41st", x.kept(40, 1), NONE);
        });
        says("or for others.", () -> {
            CuckooLodge x = Calls.of(ROW);
            x.come(3);
            for (int what : new int[] {-1, 3, LEAST, GREATEST}) due("kept(0, " + what + ")", x.kept(0, what), NONE);
        });
    }

    private static void images() {
        DOC.section("Promise 33");
        says("AN IMAGE is written: how many bytes.", () -> {
            due("without a lodge", new CuckooLodge().image(), 7);
            due("two rooms, nobody", Calls.of("rooms 2;").image(), 9);
            due("two rooms, five lodgers, one on the bench", Calls.of(FULL).image(), 5 + 2 + 10 + 1 + 1 + 1);
            CuckooLodge x = Calls.of(FULL);
            blanks(x);
            x.image();
            due("not on the tape", x.end(21), false);
            due("it changes nothing", x.has(13) + x.has(7), 0);
        });

        DOC.section("Promise 34");
        says("Byte k of the latest image();", () -> {
            CuckooLodge x = Calls.of(ROUND);
            x.image();
            int[] bytes = Calls.checked(0, 0, 0, 0, 0, 0, 0, 0, 0, 1, 0, 255, 0, 0);
            for (int k = 0; k < bytes.length; k++) due("octet(" + k + ")", x.octet(k), bytes[k]);
            x.nights(1);
            due("of the latest, not of now", x.octet(1), 0);
            x.image();
            due("of the latest now", x.octet(1), 1);
            Calls.tell(x, "rooms 3;");
            due("another lodge leaves it", x.octet(1), 1);
        });
        says("NONE when there is none such.", () -> {
            CuckooLodge x = Calls.of(ROUND);
            due("ahead of any", x.octet(0), NONE);
            x.image();
            due("the last", x.octet(14) != NONE, true);
            for (int k : new int[] {-1, 15, 16, 61, LEAST, GREATEST}) due("octet(" + k + ")", x.octet(k), NONE);
        });

        DOC.section("Promise 35");
        says("The tape (it goes) is AN IMAGE of this LODGE: true, all is as it tells,", () -> {
            CuckooLodge x = Calls.of(ROUND + "bench 2;");
            int[][] images = {{0, 0, 0, 0, 0, 0, 0, 0, 0, 1, 0, 255, 0, 0}, {3, 231, 15, 66, 63, 1, 0, 1, 99, 254, 0, 254, 0, 2, 2, 1},
                {1, 2, 3, 4, 5, 1, 1, 255, 0, 255, 0, 255, 0, 0}, {0, 7, 0, 0, 9, 0, 0, 1, 5, 0, 6, 254, 0, 1, 2}};
            for (int[] bytes : images) {
                due("on " + Arrays.toString(bytes), on(x, bytes), true);
                due("it is gone", x.end(1), false);
                due("so it is", Arrays.equals(Calls.imageOf(x), Calls.checked(bytes)), true);
            }
            due("a has room 1", x.room(1, 0), 0);
            due("c has the bench", x.bench(0), 2);
            due("the night", x.has(7), 7);
            due("the seed stays", x.has(14), 1);
            due("status(5)", x.status(5), 0);
        });
        says("nothing is KEPT,", () -> {
            CuckooLodge x = Calls.of(ROUND);
            x.come(2);
            due("on", Calls.on(x, Calls.imageOf(x)), true);
            due("has(11)", x.has(11), 0);
        });
        says("no ACT can be undone;", () -> {
            CuckooLodge x = Calls.of(ROUND);
            x.nights(1);
            due("on", Calls.on(x, Calls.imageOf(x)), true);
            due("has(13)", x.has(13), 0);
            due("undo", x.undo(), false);
        });
        says("false, refused (5), all staying, if it is none such", () -> {
            CuckooLodge x = Calls.of(ROUND);
            x.come(2);
            int[] good = Calls.imageOf(x);
            for (int k = 0; k < good.length; k++) {
                due("cut to " + k, Calls.on(x, Arrays.copyOf(good, k)), false);
                int[] bad = good.clone();
                bad[k] ^= 1;
                due("with byte " + k + " unlike", Calls.on(x, bad), false);
            }
            due("one more", Calls.on(x, Arrays.copyOf(good, good.length + 1)), false);
            due("of another lodge", on(x, 0, 0, 0, 0, 0, 0, 0, 0, 0), false);
            due("status(5)", x.status(5), 2 * good.length + 2);
            due("it is gone", x.end(1), false);
            due("all stays", Arrays.equals(Calls.imageOf(x), good), true);
            due("kept", x.has(11), 10);
            due("undo", x.undo(), true);
        });
        says("(NIGHT 999,", () -> {
            refusedOn("1000", 3, 232, 0, 0, 0, 0, 0, 0, 0, 1, 0, 255, 0, 0);
            refusedOn("255 * 256", 255, 0, 0, 0, 0, 0, 0, 0, 0, 1, 0, 255, 0, 0);
            takenOn("999", 3, 231, 0, 0, 0, 0, 0, 0, 0, 1, 0, 255, 0, 0);
        });
        says("the purse 999999,", () -> {
            refusedOn("1000000", 0, 0, 15, 66, 64, 0, 0, 0, 0, 1, 0, 255, 0, 0);
            refusedOn("more", 0, 0, 255, 0, 0, 0, 0, 0, 0, 1, 0, 255, 0, 0);
            takenOn("999999", 0, 0, 15, 66, 63, 0, 0, 0, 0, 1, 0, 255, 0, 0);
        });
        says("NIGHTS 99 at most,", () -> {
            refusedOn("100", 0, 0, 0, 0, 0, 0, 0, 0, 100, 1, 0, 255, 0, 0);
            refusedOn("255 of the second", 0, 0, 0, 0, 0, 0, 0, 0, 0, 1, 255, 255, 0, 0);
            takenOn("99", 0, 0, 0, 0, 0, 0, 0, 0, 99, 1, 99, 255, 0, 0);
        });
        says("0 of one who is no SLEEPER;", () -> {
            refusedOn("away", 0, 0, 0, 0, 0, 0, 0, 0, 0, 1, 0, 255, 1, 0);
            refusedOn("on the bench", 0, 0, 0, 0, 0, 0, 0, 0, 0, 1, 0, 254, 1, 1, 2);
            takenOn("on the bench, 0", 0, 0, 0, 0, 0, 0, 0, 0, 0, 1, 0, 254, 0, 1, 2);
        });
        says("flags 0, 1;", () -> {
            refusedOn("2", 0, 0, 0, 0, 0, 2, 0, 255, 0, 255, 0, 255, 0, 0);
            refusedOn("255 of the last", 0, 0, 0, 0, 0, 0, 255, 255, 0, 255, 0, 255, 0, 0);
            takenOn("0, 1", 0, 0, 0, 0, 0, 0, 1, 255, 0, 255, 0, 255, 0, 0);
        });
        says("a LODGER is in one of his ROOMS, that is not SHUT,", () -> {
            CuckooLodge x = Calls.of("rooms 3;lodger a has 0 2;");
            int[] where = {0, 1, 2, 3, 16, 253, 254, 255};
            boolean[] right = {true, false, true, false, false, false, false, true};
            for (int k = 0; k < where.length; k++) due("in " + where[k], on(x, 0, 0, 0, 0, 0, 0, 0, 0, where[k], 0, 0), right[k]);
            due("shut", on(x, 0, 0, 0, 0, 0, 1, 0, 0, 0, 0, 0), false);
            due("the other one shut", on(x, 0, 0, 0, 0, 0, 0, 0, 1, 2, 0, 0), false);
            due("another shut", on(x, 0, 0, 0, 0, 0, 0, 1, 1, 0, 0, 0), true);
        });
        says("no two in one;", () -> {
            refusedOn("a and b", 0, 0, 0, 0, 0, 0, 0, 0, 0, 0, 0, 255, 0, 0);
            refusedOn("a and c", 0, 0, 0, 0, 0, 0, 0, 1, 0, 255, 0, 1, 0, 0);
            takenOn("each in the other's", 0, 0, 0, 0, 0, 0, 0, 1, 0, 0, 0, 255, 0, 0);
        });
        says("on the BENCH are just those told so,", () -> {
            refusedOn("not one who sleeps", 0, 0, 0, 0, 0, 0, 0, 0, 0, 1, 0, 255, 0, 1, 0);
            refusedOn("not one who is away", 0, 0, 0, 0, 0, 0, 0, 0, 0, 1, 0, 255, 0, 1, 2);
            refusedOn("not another", 0, 0, 0, 0, 0, 0, 0, 0, 0, 255, 0, 254, 0, 1, 1);
            refusedOn("no lodger", 0, 0, 0, 0, 0, 0, 0, 0, 0, 255, 0, 254, 0, 1, 3);
            refusedOn("not fewer", 0, 0, 0, 0, 0, 0, 0, 0, 0, 1, 0, 254, 0, 0);
            refusedOn("not more", 0, 0, 0, 0, 0, 0, 0, 0, 0, 255, 0, 254, 0, 2, 2, 1);
            takenOn("he", 0, 0, 0, 0, 0, 0, 0, 0, 0, 255, 0, 254, 0, 1, 2);
        });
        says("each once,", () -> {
            refusedOn("one twice", 0, 0, 0, 0, 0, 0, 0, 0, 0, 254, 0, 254, 0, 2, 2, 2);
            refusedOn("one of one twice", 0, 0, 0, 0, 0, 0, 0, 0, 0, 255, 0, 254, 0, 2, 2, 2);
            takenOn("two", 0, 0, 0, 0, 0, 0, 0, 0, 0, 254, 0, 254, 0, 2, 2, 1);
        });
        says("no more than places),", () -> {
            CuckooLodge x = Calls.of(ROUND);
            due("two for one place", on(x, 0, 0, 0, 0, 0, 0, 0, 0, 0, 254, 0, 254, 0, 2, 1, 2), false);
            due("one", on(x, 0, 0, 0, 0, 0, 0, 0, 0, 0, 1, 0, 254, 0, 1, 2), true);
            x = Calls.of(ROUND + "bench 0;");
            due("one for none", on(x, 0, 0, 0, 0, 0, 0, 0, 0, 0, 1, 0, 254, 0, 1, 2), false);
        });
        says("or without a lodge.", () -> {
            CuckooLodge x = new CuckooLodge();
            due("its own image", Calls.on(x, Calls.imageOf(x)), false);
            due("status(5)", x.status(5), 1);
            due("it is gone", x.end(1), false);
        });

        DOC.section("Promise 36");
        String[] kinds = {"How many were refused: 0 feed(), end();", "1 lodge();", "2 nights(), chance();", "3 come(), go(), shut();", "4 undo();",
            "5 seed(), meet(), on()."};
        int[] want = {3, 1, 2, 3, 1, 3};
        for (int k = 0; k < kinds.length; k++) {
            int kind = k;
            says(kinds[k], () -> {
                CuckooLodge x = new CuckooLodge();
                for (int n = 0; n < 81; n++) blanks(x);
                x.end(-1);
                x.end(1601);
                x.lodge();
                x.nights(1);
                x.chance(1);
                x.come(0);
                x.go(0);
                x.shut(0, 1);
                x.undo();
                x.seed(-1);
                x.meet();
                x.on();
                due("status(" + kind + ")", x.status(kind), want[kind]);
                Calls.tell(x, FULL);
                x.chain(9, 9);
                x.odds(9);
                due("nothing else counts", x.status(kind), want[kind]);
            });
        }
        says("NONE for others.", () -> {
            for (int what : new int[] {-1, 6, LEAST, GREATEST}) due("status(" + what + ")", new CuckooLodge().status(what), NONE);
        });
        DOC.section("The constants");
        says("The constants: `NONE = -1`: None; refused.", () -> {
            due("NONE", CuckooLodge.NONE, -1);
            due("none", Calls.of("rooms 2;").room(0, 0), -1);
            due("refused", Calls.of("rooms 2;").come(0), -1);
        });
    }

    /** Of three for two rooms with two places on the bench. */
    private static void refusedOn(String why, int... bytes) {
        CuckooLodge x = Calls.of(ROUND + "bench 2;");
        due(why, on(x, bytes), false);
        due(why + " status(5)", x.status(5), 1);
        dueHas(why + " all stays", x, 2, 3, 2, 0, 1, 0, 0, 0, 0);
    }

    private static void takenOn(String why, int... bytes) {
        due(why, on(Calls.of(ROUND + "bench 2;"), bytes), true);
    }

    public static void main(String[] args) {
        DOC.section("What it is");
        use();
        theTape();
        theLodge();
        counts();
        aheadOfNow();
        sets();
        steps();
        acts();
        images();
        DOC.close("PromiseEdgesTest");
    }
}
