import java.util.Arrays;
import java.util.List;

/** What the document says of the language (Terms I), sentence by sentence. */
public final class LanguageEdgesTest {
    private static final int NONE = CuckooLodge.NONE;
    private static final Sentences DOC = new Sentences();
    private static final String OWN_WORDS = "rooms, bench, steps, knock, lodger, has, in, shut, yields, leaves, rents, night, room, nights, "
        + "empty, step, first, if, or, and, not, all, min, max";
    // Two in bed; c, who has both of their rooms, is away.
    private static final String PAIR = "rooms 3;lodger a has 0 1;lodger b has 1 0;lodger c has 0 1;in a;in b;";

    private static void says(String words, Runnable test) {
        DOC.says(words, test);
    }

    private static void due(String call, long got, long want) {
        Calls.due(call, got, want);
    }

    private static void due(String call, boolean got, boolean want) {
        Calls.due(call, got, want);
    }

    private static void fault(int kind, String marked) {
        Calls.fault(kind, marked);
    }

    private static CuckooLodge right(int statements, String text) {
        return Calls.right(statements, text);
    }

    /** What a lodger pays in night 0, in room 1, his other one, in a lodge of four rooms with one shut. */
    private static int rent(String sum) {
        return right(5, "rooms 4;lodger a has 0 1;shut 0;in a;rents " + sum + ";").purse(1);
    }

    private static void dueRents(Object... sumsAndRents) {
        for (int i = 0; i < sumsAndRents.length; i += 2) {
            due("rents " + sumsAndRents[i], rent((String) sumsAndRents[i]), (Integer) sumsAndRents[i + 1]);
        }
    }

    private static void holds(String test, boolean want) {
        due("if(" + test + ",1,0)", rent("if(" + test + ",1,0)"), want ? 1 : 0);
    }

    private static String lodgers(int count) {
        StringBuilder all = new StringBuilder();
        for (int i = 0; i < count; i++) all.append("lodger n").append((char) ('a' + i)).append(" has 0 1;");
        return all.toString();
    }

    /** By the odds of one who is away: with his rooms free he sleeps in just as many rows as he knocks. */
    private static int knock(String statements) {
        return Calls.of("rooms 2;lodger a has 0 1;" + statements).odds(0);
    }

    private static void statements() {
        says("A LODGE is a text: { STATEMENT ; } (60 at most):", () -> {
            right(60, "rooms 2;" + "bench 1;".repeat(59));
            fault(6, "rooms 2;" + "bench 1;".repeat(59) + "@bench 1;");
            right(1, "rooms 2;");
            fault(1, "rooms 2@");
            fault(1, "rooms 2;bench 1@");
            fault(1, "rooms 2;@;");
        });
        says("rooms N (2 .. 16 ROOMS;", () -> {
            fault(4, "rooms @0;");
            fault(4, "rooms @1;");
            due("two", right(1, "rooms 2;").has(0), 2);
            due("sixteen", right(1, "rooms 16;").has(0), 16);
            fault(4, "rooms @17;");
            fault(4, "rooms @9999;");
        });
        says("the first STATEMENT, and it alone);", () -> {
            fault(1, "@bench 1;rooms 2;");
            fault(1, "@lodger a has 0 1;rooms 2;");
            fault(1, "@yields all;rooms 2;");
            fault(1, "rooms 2;@rooms 2;");
            fault(1, "rooms 2;bench 1;@rooms 3;");
        });
        says("bench N (0 .. 6 places;", () -> {
            due("none", right(2, "rooms 2;bench 0;").has(9), 0);
            due("six", right(2, "rooms 2;bench 6;").has(9), 6);
            fault(4, "rooms 2;bench @7;");
        });
        says("1 without),", () -> due("has(9)", right(1, "rooms 2;").has(9), 1));
        says("steps N (1 .. 40;", () -> {
            fault(4, "rooms 2;steps @0;");
            due("one", right(2, "rooms 2;steps 1;").has(10), 1);
            due("forty", right(2, "rooms 2;steps 40;").has(10), 40);
            fault(4, "rooms 2;steps @41;");
        });
        says("10 without),", () -> due("has(10)", right(1, "rooms 2;").has(10), 10));
        says("knock N (0 .. 100;", () -> {
            due("never", knock("knock 0;"), 0);
            due("always", knock("knock 100;"), 100);
            fault(4, "rooms 2;knock @101;");
        });
        says("0 without):", () -> due("odds", knock(""), 0));
        says("the last one of each counts;", () -> {
            CuckooLodge x = right(10, "rooms 2;bench 3;steps 7;knock 1;bench 5;bench 2;knock 9;knock 4;steps 8;lodger a has 0 1;");
            due("bench", x.has(9), 2);
            due("steps", x.has(10), 8);
            due("knock", x.odds(0), 4);
            due("nothing else is told by them", x.has(0) * 10 + x.has(6), 20);
            x = right(7, "rooms 2;knock 1;knock 0;steps 1;steps 1;bench 0;bench 1;");
            due("a knock shuts no room", x.has(6), 0);
        });
    }

    private static void lodgersAndRooms() {
        says("lodger NAME has N N (two unlike ROOMS, from 0 on:", () -> {
            CuckooLodge x = right(3, "rooms 3;lodger a has 0 2;lodger b has 2 0;");
            due("the least", x.lodger(0, 0), 0);
            due("the greatest", x.lodger(0, 1), 2);
            fault(1, "rooms 3;lodger@;");
            fault(1, "rooms 3;lodger a@;");
            fault(1, "rooms 3;lodger a has@;");
            fault(1, "rooms 3;lodger a has 0@;");
            fault(1, "rooms 3;lodger a @0 1;");
            fault(4, "rooms 3;lodger a has @3 0;");
            fault(4, "rooms 3;lodger a has 0 @3;");
            fault(4, "rooms 3;lodger a has 0 @0;");
            fault(4, "rooms 3;lodger a has 2 @2;");
        });
        says("his FIRST and his OTHER ROOM;", () -> {
            CuckooLodge x = right(2, "rooms 4;lodger a has 3 1;");
            due("first", x.lodger(0, 0), 3);
            due("other", x.lodger(0, 1), 1);
        });
        says("16 LODGERS);", () -> {
            due("sixteen", right(17, "rooms 2;" + lodgers(16)).has(1), 16);
            sixteenInARing();
            sixteenForTen();
            theLastThree();
            fault(6, "rooms 2;" + lodgers(16) + "@lodger nz has 0 1;");
        });
        says("in NAME (a LODGER, not told so already:", () -> {
            right(3, "rooms 2;lodger a has 0 1;in a;");
            fault(1, "rooms 2;lodger a has 0 1;in@;");
            fault(1, "rooms 2;lodger a has 0 1;in @0;");
            fault(3, "rooms 2;lodger a has 0 1;in @b;");
            fault(3, "rooms 2;lodger a has 0 1;in a;in @a;");
        });
        says("he COMES at first, in the order told,", () -> {
            CuckooLodge x = right(7, "rooms 3;lodger a has 0 1;lodger b has 0 1;lodger c has 2 0;in b;in a;in c;");
            due("b was the first", x.room(0, 0), 1);
            due("a has what is left", x.room(1, 0), 0);
            due("c", x.room(2, 0), 2);
        });
        says("by all that the text tells);", () -> {
            due("a room shut behind it", right(4, "rooms 2;lodger a has 0 1;in a;shut 0;").lodger(0, 2), 1);
            String three = PAIR + "in c;";
            due("a test told behind it", right(8, three + "yields not all;").lodger(2, 4), 0);
            due("steps told behind it", right(8, three + "steps 1;").lodger(0, 4), 0);
            due("steps told twice behind it", right(9, three + "steps 1;steps 2;").lodger(1, 4), 0);
            due("a bench told behind it", right(9, three + "yields not all;bench 0;").has(4), 1);
            due("nobody leaves ahead of a night", right(8, three + "leaves all;").has(2), 2);
        });
        says("shut N (a ROOM that is not SHUT);", () -> {
            fault(1, "rooms 3;shut@;");
            CuckooLodge x = right(4, "rooms 3;shut 0;shut 2;shut 1;");
            due("all of them", x.has(6), 3);
            fault(4, "rooms 3;shut @3;");
            fault(4, "rooms 3;shut 2;shut @2;");
            fault(4, "rooms 3;shut 0;shut 2;shut @0;");
        });
        says("yields TEST, leaves TEST, rents SUM (one each).", () -> {
            right(4, "rooms 2;yields all;leaves all;rents 1;");
            fault(6, "rooms 2;yields all;@yields all;");
            fault(6, "rooms 2;leaves all;bench 1;@leaves all;");
            fault(6, "rooms 2;rents 1;@rents 1;");
            fault(1, "rooms 2;yields@;");
            fault(1, "rooms 2;leaves@;");
            fault(1, "rooms 2;rents@;");
            fault(1, "rooms 2;yields 1@;");
            fault(1, "rooms 2;leaves 1@;");
            fault(1, "rooms 2;rents @all;");
        });
    }

    private static String name(int lodger) {
        return "n" + (char) ('a' + lodger);
    }

    /** Each has his own room and the next one's. */
    private static void sixteenInARing() {
        StringBuilder text = new StringBuilder("rooms 16;");
        for (int i = 0; i < 16; i++) text.append("lodger ").append(name(i)).append(" has ").append(i).append(' ').append((i + 1) % 16).append(";in ").append(name(i)).append(';');
        CuckooLodge x = right(33, text.toString());
        due("all sleep", x.has(2), 16);
        due("the last one, in the last room", x.room(15, 0), 15);
        due("all pay", x.nights(1), 16);
        due("all at once", x.most(65535), 16);
        due("one more than all", x.most(65536), NONE);
        due("one way round or the other", x.ways(65535), 2);
        due("nobody is turned away", x.turned(65535), 0);
        due("no crowd", x.crowd(), NONE);
        due("all in each other's way", x.clear(15), NONE);
        due("its image", x.image(), 55);
        due("where the last one is", x.octet(51), 15);
        due("the image is one", Calls.on(x, Calls.imageOf(x)), true);
        x.go(15);
        due("all but one make way", x.clear(0), 15);
        due("all rows", x.odds(NONE), 1600);
        due("the last one's, who does not knock", x.odds(15), 0);
        x.shut(15, 1);
        due("sixteen for fifteen rooms", x.crowd(), 65535);
        due("the least of them", x.turned(65535), 1);
        due("later, in the last room", x.later(15, 40), NONE);
        due("ten steps without more", x.come(15), 10);
        x = right(34, text + "leaves room=15 or empty=1;");
        // The last one's room is 15; with him gone nobody is left whose turn it would be.
        x.nights(1);
        due("the last one leaves", x.has(2) * 100 + x.lodger(15, 2), 1500 + NONE);
    }

    /** Ten in bed, who do not yield, and six on the bench. */
    private static void sixteenForTen() {
        StringBuilder text = new StringBuilder("rooms 16;bench 6;");
        for (int i = 0; i < 16; i++) text.append("lodger ").append(name(i)).append(" has ").append(i % 10).append(' ').append((i + 1) % 10).append(';');
        for (int i = 0; i < 16; i++) text.append("in ").append(name(i)).append(';');
        CuckooLodge x = right(35, text + "yields step>0;");
        due("in bed", x.has(2), 10);
        for (int k = 0; k < 6; k++) due("bench(" + k + ")", x.bench(k), 10 + k);
        due("its image", x.image(), 61);
        due("the last on the bench", x.octet(59), 15);
        due("its last byte", x.octet(60) == NONE, false);
        due("no more", x.octet(61), NONE);
        due("the image is one", Calls.on(x, Calls.imageOf(x)), true);
        // 0 and 10, 1 and 11 .. have the same rooms: two such pairs that meet are four for three rooms.
        due("the first crowd", x.crowd(), 1 + 2 + 1024 + 2048);
    }

    /** The last three lodgers have the last two rooms; whoever comes makes all three go round. */
    private static void theLastThree() {
        StringBuilder text = new StringBuilder("rooms 16;steps 40;");
        for (int i = 0; i < 16; i++) text.append("lodger ").append(name(i)).append(i < 13 ? " has 0 1;" : i == 14 ? " has 15 14;" : " has 14 15;");
        CuckooLodge x = right(20, text + "in nn;in no;");
        due("the room that tells", x.tells(15, 1), 14);
        due("the most that are left", x.tells(15, 2), 14);
        Calls.meet(x, 0, 14, 15, 0, 15, 14);
        due("by what was met", x.stepped(15, NONE), 7);
        due("all steps", x.come(15), 40);
        for (int k = 0; k < 40; k++) due("kept " + k, x.kept(k, 1) * 100 + x.kept(k, 2), (13 + k % 3) * 100 + 14 + k % 2);
    }

    private static void sums() {
        says("SUM: PRODUCT { + or - PRODUCT }.", () -> {
            dueRents("7", 7, "7+2", 9, "7-2", 5, "1+2-3+9-4", 5);
            fault(1, "rooms 2;rents @+1;");
            fault(1, "rooms 2;rents @-1;");
            fault(1, "rooms 2;rents 1+@;");
            fault(1, "rooms 2;rents 1-@-1;");
            fault(1, "rooms 2;rents 1 @1;");
        });
        says("PRODUCT: PART { * or / or % PART }.", () -> {
            dueRents("2*9", 18, "19/2", 9, "19%4", 3, "2*9/6%2", 1, "2+3*4", 14, "20-6/2", 17, "9+7%4", 12);
            fault(1, "rooms 2;rents @*1;");
            fault(1, "rooms 2;rents 2*@;");
            fault(1, "rooms 2;rents 2/@%2;");
        });
        says("PART: N; night; room; nights; empty;", () -> {
            right(4, "rooms 2;yields 1+night+room+nights+empty<2;leaves 1+night+room+nights+empty<2;rents 1+night+room+nights+empty;");
            fault(1, "rooms 2;rents @steps;");
            fault(1, "rooms 2;rents @rooms;");
            fault(1, "rooms 2;lodger a has 0 1;rents @a;");
        });
        says("in yields: step;", () -> {
            right(2, "rooms 2;yields step<2;");
            fault(1, "rooms 2;leaves @step<2;");
            fault(1, "rooms 2;rents @step;");
        });
        says("in leaves: bench;", () -> {
            right(2, "rooms 2;leaves bench<2;");
            fault(1, "rooms 2;yields @bench<2;");
            fault(1, "rooms 2;rents @bench;");
        });
        says("in rents: first;", () -> {
            right(2, "rooms 2;rents first;");
            fault(1, "rooms 2;yields @first<2;");
            fault(1, "rooms 2;leaves @first<2;");
        });
        says("( SUM ) ;", () -> {
            dueRents("(2+3)*4", 20, "9-(5-3)", 7, "((8))", 8);
            fault(1, "rooms 2;rents (@);");
            fault(1, "rooms 2;rents (1@;");
            fault(1, "rooms 2;rents 1@);");
            fault(1, "rooms 2;yields (@all);");
        });
        says("min ( SUM , SUM ) ;", () -> {
            dueRents("min(3,9)", 3, "min(9,3)", 3, "min(4,4)", 4, "min(1+7,2*5)", 8);
            twoSums("min");
        });
        says("max ( SUM , SUM ) ;", () -> {
            dueRents("max(3,9)", 9, "max(9,3)", 9, "max(4,4)", 4, "max(1+7,2*5)", 10);
            twoSums("max");
        });
        says("if ( TEST , SUM , SUM )", () -> {
            dueRents("if(1<2 and all,3+4,5*6)", 7);
            fault(1, "rooms 2;rents if@;");
            fault(1, "rooms 2;rents if@+1;");
            fault(1, "rooms 2;rents if @1;");
            fault(1, "rooms 2;rents if(@);");
            fault(1, "rooms 2;rents if(1@,2,3);");
            fault(1, "rooms 2;rents if(all@);");
            fault(1, "rooms 2;rents if(all,@all,3);");
            fault(1, "rooms 2;rents if(all,2@);");
            fault(1, "rooms 2;rents if(all,2,@);");
            fault(1, "rooms 2;rents if(all,2,3@,4);");
            fault(1, "rooms 2;rents if(all,2,3@;");
        });
        says("(the first SUM where the TEST holds, else the second one).", () -> dueRents("if(all,5,6)", 5, "if(not all,5,6)", 6, "if(all,0,6)", 0));
    }

    private static void twoSums(String word) {
        fault(1, "rooms 2;rents " + word + "@;");
        fault(1, "rooms 2;rents " + word + "@+1;");
        fault(1, "rooms 2;rents " + word + " @1;");
        fault(1, "rooms 2;rents " + word + "(@);");
        fault(1, "rooms 2;rents " + word + "(1@);");
        fault(1, "rooms 2;rents " + word + "(1,@);");
        fault(1, "rooms 2;rents " + word + "(1,2@,3);");
        fault(1, "rooms 2;rents " + word + "(1,2@;");
    }

    private static void tests() {
        says("TEST: BOTH { or BOTH }.", () -> {
            holds("all or all", true);
            holds("all or not all", true);
            holds("not all or all", true);
            holds("not all or not all", false);
            holds("not all or not all or all", true);
            fault(1, "rooms 2;yields @or all;");
            fault(1, "rooms 2;yields all or @;");
        });
        says("BOTH: FACT { and FACT }.", () -> {
            holds("all and all", true);
            holds("all and not all", false);
            holds("not all and all", false);
            holds("not all and not all", false);
            holds("all and all and not all", false);
            holds("all or all and not all", true);
            holds("not all and all or all", true);
            fault(1, "rooms 2;yields all and @;");
            fault(1, "rooms 2;yields all and @or all;");
            fault(1, "rooms 2;yields all @all;");
        });
        says("FACT: not FACT;", () -> {
            holds("not all", false);
            holds("not not all", true);
            holds("not 1<2", false);
            holds("not not all and not all", false);
            holds("not all or all", true);
            fault(1, "rooms 2;yields not @;");
        });
        says("[ TEST ] ;", () -> {
            holds("[all]", true);
            holds("[all or all] and not all", false);
            holds("not [all and not all]", true);
            fault(1, "rooms 2;yields [@];");
            fault(1, "rooms 2;yields [all@;");
            fault(1, "rooms 2;yields [1@];");
            fault(1, "rooms 2;rents @[1];");
        });
        says("all;", () -> {
            holds("all", true);
            fault(1, "rooms 2;yields all@<1;");
            fault(1, "rooms 2;yields 1<@all;");
        });
        says("SUM SIGN SUM, SIGN < or > or = .", () -> {
            String[] signs = {"<", ">", "="};
            for (int a = 4; a <= 6; a++) {
                for (int k = 0; k < 3; k++) holds(a + signs[k] + "3+2", k == 0 ? a < 5 : k == 1 ? a > 5 : a == 5);
            }
            fault(1, "rooms 2;yields 1<@;");
            fault(1, "rooms 2;yields @<1;");
            fault(1, "rooms 2;yields 1<2@<3;");
            fault(1, "rooms 2;yields 1<@=2;");
            fault(1, "rooms 2;yields 1@!2;");
        });
    }

    private static void whatIsAsked() {
        says("(The NIGHT;", () -> {
            CuckooLodge x = right(4, "rooms 2;lodger a has 0 1;in a;rents night;");
            due("night 0", x.nights(1), 0);
            due("night 1", x.nights(1), 1);
            due("nights 2, 3, 4", x.nights(3), 9);
            due("yields, night 0", Calls.of(PAIR + "yields night=0;").chain(2, NONE), 10);
            due("leaves, night 1", Calls.of(PAIR + "leaves night=1;").later(0, 1), 0);
            due("leaves, behind night 1", Calls.of(PAIR + "leaves night=1;").later(0, 2), NONE);
        });
        says("of the SLEEPER his ROOM,", () -> {
            due("rents", Calls.of("rooms 9;lodger a has 7 1;lodger b has 8 2;in a;in b;rents room;").nights(1), 15);
            due("yields", Calls.of(PAIR + "yields room=1;").chain(2, 0), 1);
            CuckooLodge x = Calls.of(PAIR + "leaves room=1;");
            due("leaves, the one in 1", x.later(1, 1), NONE);
            due("leaves, the one in 0", x.later(0, 1), 0);
        });
        says("for how many NIGHTS he has been in it;", () -> {
            CuckooLodge x = Calls.of(PAIR + "rents nights;yields nights>1;");
            due("night 0", x.nights(1), 0);
            x.go(1);
            x.come(1);
            due("a for one night, b for none", x.nights(1), 1);
            due("a for two, b for one", x.room(0, 4), 1);
            due("b does not yield", x.room(1, 4), 0);
        });
        says("how many ROOMS are EMPTY;", () -> {
            CuckooLodge x = Calls.of("rooms 5;lodger a has 0 1;in a;shut 3;rents empty;");
            due("neither his own nor the shut one", x.nights(1), 3);
            x.shut(3, 0);
            due("one opened", x.nights(1), 4);
            due("yields", Calls.of(PAIR + "yields empty=1;").room(0, 4), 1);
            due("leaves: with a gone two are empty, and b stays", Calls.of(PAIR + "leaves empty=1;").later(1, 1), 1);
        });
        says("how many were put out already in this COMING;", () -> {
            for (int k = 0; k < 4; k++) due("yields step<" + k, Calls.of(PAIR + "yields step<" + k + ";").chain(2, NONE), k);
            CuckooLodge x = Calls.of(PAIR + "in c;yields step<3;");
            int away = x.bench(0);
            x.go(away);
            due("from 0 in each COMING", x.come(away), 3);
        });
        says("how many are on the BENCH;", () -> {
            String four = "rooms 2;bench 2;lodger a has 0 1;lodger b has 1 0;lodger c has 0 1;lodger d has 0 1;in a;in b;in c;in d;yields not all;";
            due("two", Calls.of(four + "leaves bench=2;").later(0, 1), NONE);
            due("not one", Calls.of(four + "leaves bench=1;").later(0, 1), 0);
            CuckooLodge x = Calls.of(four + "leaves bench=1;");
            x.go(3);
            due("one", x.later(0, 1), NONE);
            x.go(0);
            due("none, once he is in bed", x.later(0, 1), 2);
        });
        says("1 if it is his FIRST ROOM, else 0.)", () -> {
            CuckooLodge x = Calls.of("rooms 2;lodger a has 1 0;lodger b has 1 0;in a;in b;rents 3+first*9;");
            due("12 and 3", x.nights(1), 15);
            x.go(0);
            due("b in his other one", x.nights(1), 3);
        });
    }

    private static void reckoning() {
        says("All from the left on;", () -> dueRents("20-5-3", 12, "2-3+9", 8, "50/5*2", 20, "50%7*3", 3, "90/9/5", 2, "7*5%3", 2));
        says("/ gives the greatest whole number not above,", () -> dueRents("7/2", 3, "6/2", 3, "(0-7)/2+50", 46, "(0-6)/2+50", 47,
            "7/(0-2)+50", 46, "(0-7)/(0-2)", 3, "1/9999", 0, "(0-1)/9999+50", 49, "0/5", 0));
        says("% what is left (a less b times that);", () -> dueRents("7%2", 1, "6%2", 0, "(0-7)%2", 1, "(0-6)%4", 2, "7%(0-2)+5", 4,
            "(0-7)%(0-2)+5", 4, "7%(0-4)+5", 4, "3%9999", 3, "0%5", 0));
        says("by 0 both give 0;", () -> dueRents("7/0+5", 5, "7%0+5", 5, "(0-7)/0+5", 5, "(0-7)%0+5", 5, "0/0+5", 5, "0%0+5", 5, "7/night+5", 5));
        says("each result above 10 to the 6 is that,", () -> dueRents("1000*1000-9999*100-50", 50, "1000*1001-9999*100-50", 50,
            "9999*9999-9999*100-50", 50, "9999*100+100-9999*100-50", 50, "9999*100+101-9999*100-50", 50,
            "9999*100-(0-200)-9999*100-50", 50, "9999*100+99-9999*100-50", 49, "9999*9999*0+5", 5));
        says("below -10 to the 6 likewise.", () -> dueRents("(0-1000)*1000+9999*100+150", 50, "(0-1000)*1001+9999*100+150", 50,
            "(0-9999)*9999+9999*100+150", 50, "0-9999*100-100+9999*100+150", 50, "0-9999*100-101+9999*100+150", 50,
            "(0-9999*100)+(0-200)+9999*100+150", 50, "0-9999*100-99+9999*100+150", 51));
    }

    private static void wordsAndNumbers() {
        says("NAMES: 1 to 6 letters,", () -> {
            CuckooLodge x = right(3, "rooms 2;lodger z has 0 1;lodger abcdef has 0 1;");
            due("one letter", x.letter(0, 0) * 100 + x.letter(0, 1), 2600);
            due("six", x.letter(1, 5), 6);
            fault(1, "rooms 2;lodger abcdef@g has 0 1;");
            fault(1, "rooms 2;lodger @;");
            fault(1, "rooms 2;lodger @1 has 0 1;");
            fault(1, "rooms 2;lodger @A has 0 1;");
            fault(1, "rooms 2;lodger a@_ has 0 1;");
            fault(1, "rooms 2;lodger @` has 0 1;");
            fault(1, "rooms 2;lodger @{ has 0 1;");
        });
        says("unlike ones,", () -> {
            fault(2, "rooms 2;lodger ab has 0 1;lodger @ab has 1 0;");
            right(4, "rooms 2;lodger ab has 0 1;lodger a has 1 0;lodger ba has 1 0;");
        });
        says("told ahead of where they are asked.", () -> {
            fault(3, "rooms 2;in @a;lodger a has 0 1;");
            right(4, "rooms 2;lodger a has 0 1;bench 1;in a;");
        });
        says("NUMBERS: 1 to 4 digits.", () -> {
            dueRents("9", 9, "09", 9, "009", 9, "0009", 9, "0000", 0, "9999-9990", 9, "8-0", 8);
            fault(1, "rooms 2;rents 0000@9;");
            fault(1, "rooms 2;rents 9999@9;");
            fault(1, "rooms 2;rents @/;");
            fault(1, "rooms 2;rents @:;");
        });
        says("Blanks (10, 32) are where one likes", () -> {
            right(3, " \n rooms\n\n2 ; lodger \n a  has\n0   1\n;\nrents ( 1 + 2 ) * min ( 3 , 4 ) ;\n ");
            right(3, "rooms 2;yields[not[1<2]or(3)=4]and 5>6;rents(1+2)*min(3,4);");
            for (int octet : new int[] {0, 9, 11, 13, 31, 33, 127, 128, 160, 255}) {
                fault(1, "rooms 2;@" + (char) octet + "bench 1;");
                fault(1, "rooms@" + (char) octet + "2;");
            }
        });
        says("(words and numbers side by side need one).", () -> {
            fault(1, "rooms@2;");
            fault(1, "rooms@12345;");
            fault(1, "rooms 2@abcdefg;");
            fault(1, "rooms 2;lodger a@1 has 0 1;");
            fault(1, "rooms 2;lodger a has@0 1;");
            fault(1, "rooms 2;yields 1<2@and all;");
            fault(1, "rooms 2;yields not@1<2;");
            fault(1, "rooms 2;rents 1@night;");
            fault(1, "rooms 2;lodger a has 0 1;@ina;");
            right(2, "rooms 2;yields not[all]and(1)<2 or all;");
        });
        says("OWN WORDS, which no NAME is: " + OWN_WORDS + ".", () -> {
            List<String> own = Arrays.asList(OWN_WORDS.split(", "));
            due("all of them", own.size(), 24);
            for (String word : own) {
                fault(1, "rooms 2;lodger @" + word + " has 0 1;");
                fault(1, "rooms 2;lodger a has 0 1;in @" + word + ";");
                String shorter = word.substring(0, word.length() - 1);
                if (word.length() < 6) right(2, "rooms 2;lodger " + word + "x has 0 1;");
                if (!own.contains(shorter)) right(2, "rooms 2;lodger " + shorter + " has 0 1;");
            }
        });
    }

    private static void theFirstFault() {
        says("FAULTS, the first along the text:", () -> {
            fault(4, "rooms 3;shut @3;in zz;lodger in;");
            fault(3, "rooms 3;in @z;shut 9;lodger in;");
            fault(1, "rooms 3;lodger @in;shut 9;in z;");
            fault(2, "rooms 3;lodger a has 0 1;lodger @a has 9 9;");
            fault(5, "rooms 3;yields " + "[".repeat(7) + "@[;rents ;");
            fault(6, "rooms 3;rents 1;@rents ((((((((;");
            fault(4, "rooms @17x;");
            fault(3, "rooms 3;in @b2;");
            fault(4, "rooms 3;lodger a has @3 3;");
        });
        says("1 the first byte with which no LODGE goes on", () -> {
            fault(1, "@x");
            fault(1, "@;");
            fault(1, "@2;");
            fault(1, "rooms 3@,");
            fault(1, "rooms 3 @3;");
            fault(1, "rooms 3;@has;");
            fault(1, "rooms 3;lodger a @in 0 1;");
            fault(1, "rooms 3;lodger a has @b 1;");
            fault(1, "rooms 3;lodger a has 0@;");
            fault(1, "rooms 3;lodger a has 0 1 @2;");
            fault(1, "rooms 3;shut @all;");
            fault(1, "rooms 3;bench @-1;");
        });
        says("(words and numbers whole, at their first byte;", () -> {
            fault(1, "@roomy 3;");
            fault(1, "@room 3;");
            fault(1, "@r");
            fault(1, "rooms 3;@knocks 1;");
            fault(1, "rooms 3;@bencha 1;");
            fault(1, "rooms 3;bench 1 @2345;");
            fault(1, "rooms 3;lodger a @hast 0 1;");
            fault(1, "rooms 3;rents @nighty;");
            fault(1, "rooms 3;rents @nigh;");
        });
        says("at the text's length, if it ends too soon:", () -> {
            String[] ends = {"rooms", "rooms 3", "rooms 3;bench", "rooms 3;bench 1", "rooms 3;lodger", "rooms 3;lodger a", "rooms 3;lodger a has",
                "rooms 3;lodger a has 0", "rooms 3;lodger a has 0 1", "rooms 3;lodger a has 0 1;in", "rooms 3;lodger a has 0 1;in a",
                "rooms 3;shut", "rooms 3;shut 1", "rooms 3;yields", "rooms 3;yields not", "rooms 3;yields [", "rooms 3;yields [all", "rooms 3;yields all",
                "rooms 3;yields all and", "rooms 3;yields all or", "rooms 3;yields 1", "rooms 3;yields 1<", "rooms 3;yields 1<2", "rooms 3;rents",
                "rooms 3;rents (", "rooms 3;rents (1", "rooms 3;rents min", "rooms 3;rents max(", "rooms 3;rents min(1", "rooms 3;rents min(1,",
                "rooms 3;rents min(1,2", "rooms 3;rents if", "rooms 3;rents if(", "rooms 3;rents if(all", "rooms 3;rents if(all,1,", "rooms 3;rents 1+",
                "rooms 3;rents 1*", "rooms 3;rents 9999", "rooms 3;lodger abcdef"};
            for (String text : ends) {
                fault(1, text + "@");
                fault(1, text + " \n @");
            }
        });
        says("a text without a STATEMENT has FAULT 1 at its length;", () -> {
            fault(1, "@");
            fault(1, " @");
            fault(1, "\n\n  \n@");
            fault(1, " ".repeat(1600) + "@");
        });
        says("a 7th letter, a 5th digit at itself, whatever may stand there;", () -> {
            String[] places = {"", "rooms ", "rooms 3 ", "rooms 3;", "rooms 3;bench ", "rooms 3;lodger ", "rooms 3;lodger a ", "rooms 3;lodger a has ",
                "rooms 3;lodger a has 0 ", "rooms 3;lodger a has 0 1 ", "rooms 3;in ", "rooms 3;yields ", "rooms 3;yields 1 ", "rooms 3;yields 1<",
                "rooms 3;yields all ", "rooms 3;rents min ", "rooms 3;rents (", "rooms 3;rents 1 "};
            for (String place : places) {
                fault(1, place + "abcdef@g;");
                fault(1, place + "nights@nights;");
                fault(1, place + "lodger@s;");
                fault(1, place + "0000@1;");
                fault(1, place + "9999@99;");
            }
        });
        says("an OWN WORD where a NAME must be);", () -> {
            fault(1, "rooms 3;lodger @all has 0 1;");
            fault(1, "rooms 3;in @lodger;");
        });
    }

    private static void otherFaults() {
        says("2 a NAME that is there already, at its first byte;", () -> {
            fault(2, "rooms 3;lodger cuckoo has 0 1;lodger b has 0 1;lodger @cuckoo");
            fault(2, "rooms 3;lodger a has 0 1;lodger  \n@a;");
        });
        says("3 a NAME that is none of a LODGER,", () -> {
            fault(3, "rooms 3;in @a");
            fault(3, "rooms 3;lodger ab has 0 1;in @a;");
            fault(3, "rooms 3;lodger a has 0 1;in  @ab;");
        });
        says("or of one who is told to be in already, at its first byte;", () -> {
            fault(3, "rooms 3;lodger a has 0 1;lodger b has 0 1;in a;in b;in @a");
            fault(3, "rooms 3;lodger a has 0 1;in a;lodger b has 0 1;in \n@a;");
        });
        says("4 a NUMBER that can't be, at its first byte;", () -> {
            fault(4, "rooms  @17");
            fault(4, "rooms @0001");
            fault(4, "rooms 3;bench @0007;");
            fault(4, "rooms 3;steps @0000;");
            fault(4, "rooms 3;knock @9999;");
            fault(4, "rooms 3;shut @0003;");
            fault(4, "rooms 3;lodger a has 1 @01;");
            fault(4, "rooms 16;lodger a has @16 1;");
            right(2, "rooms 16;lodger a has 15 0;");
        });
        says("5 the 8th ( [ not that is open at once", () -> {
            right(2, "rooms 3;rents " + "(".repeat(7) + "1" + ")".repeat(7) + ";");
            fault(5, "rooms 3;rents " + "(".repeat(7) + "@(1");
            right(2, "rooms 3;yields " + "[".repeat(7) + "all" + "]".repeat(7) + ";");
            fault(5, "rooms 3;yields " + "[".repeat(7) + "@[all");
            right(2, "rooms 3;yields " + "not ".repeat(7) + "all;");
            fault(5, "rooms 3;yields " + "not ".repeat(7) + "@not all;");
            right(2, "rooms 3;rents " + "min(1,".repeat(7) + "1" + ")".repeat(7) + ";");
            fault(5, "rooms 3;rents " + "min(1,".repeat(7) + "max@(1,1");
            right(2, "rooms 3;rents " + "if(all,1,".repeat(7) + "1" + ")".repeat(7) + ";");
            fault(5, "rooms 3;rents " + "if(all,1,".repeat(7) + "if@(all");
            fault(5, "rooms 3;rents " + "if([1<".repeat(3) + "if(@[");
            right(2, "rooms 3;rents (((((((1)))))))+(((((((1)))))));");
            right(2, "rooms 3;rents min(((((((1)))))),((((((1)))))));");
            right(2, "rooms 3;rents if([[[[[[1<2]]]]]],((((((1)))))),((((((1)))))));");
            fault(5, "rooms 3;rents if([[[[[[1<@(");
            fault(5, "rooms 3;rents if(all,((((((@(1");
            fault(5, "rooms 3;rents if(all,1,((((((@(1");
            fault(5, "rooms 3;rents min(((((((@(1");
            fault(5, "rooms 3;rents max(1,((((((@(1");
            fault(5, "rooms 3;yields not [(1+min(if([not @(1");
            fault(1, "rooms 3;rents " + "(".repeat(7) + "min@;");
            // At each depth as much as can be waits for what stands inside.
            for (String inmost : new String[] {"1<2", "2<1"}) {
                String test = inmost;
                for (int k = 0; k < 6; k++) test = "1<0 or 1=1 and 3<2+1*if(" + test + ",5,0)";
                dueRents("4+3*if(" + test + ",7,1)", inmost.equals("1<2") ? 25 : 7);
            }
        });
        says("(not until its FACT ends), at it;", () -> {
            String six = "not ".repeat(6);
            right(2, "rooms 3;yields not not not not not not not all and not not not not not not not all;");
            right(2, "rooms 3;yields " + six + "(1)<(2) and " + six + "[all] or [" + six + "all];");
            fault(5, "rooms 3;yields " + six + "(@(1)<((2) and ");
            fault(5, "rooms 3;yields " + six + "(1)<(@(2");
            fault(5, "rooms 3;yields [[" + "not ".repeat(5) + "all and " + "not ".repeat(5) + " @not all");
        });
        says("6 one too many of a kind of STATEMENT", () -> {
            fault(6, "rooms 3;" + lodgers(16) + "@lodger in;");
            fault(6, "rooms 3;" + lodgers(16) + "in na;\n@lodger na has 0 1;");
        });
        says("(a second yields, leaves, rents, too),", () -> {
            fault(6, "rooms 3;yields all;leaves all;rents 1;@yields");
            fault(6, "rooms 3;yields all;leaves all;rents 1; @leaves 1;");
            fault(6, "rooms 3;yields all;leaves all;rents 1;@rents ;");
        });
        says("or the 61st STATEMENT (whatever it is), at its first byte.", () -> {
            String sixty = "rooms 3;" + "bench 2;".repeat(59);
            right(60, sixty + " \n ");
            for (String last : new String[] {"bench 2;", "bench 9;", "knock", "rooms 3;", "in zz;", "has", "x", "abcdefg;", "12345;"}) {
                fault(6, sixty + " @" + last);
            }
            fault(4, "rooms 3;" + "bench 2;".repeat(58) + "bench @9;bench 2;");
        });
    }

    public static void main(String[] args) {
        DOC.section("Terms I");
        statements();
        lodgersAndRooms();
        sums();
        tests();
        whatIsAsked();
        reckoning();
        wordsAndNumbers();
        theFirstFault();
        otherFaults();
        DOC.close("LanguageEdgesTest");
    }
}
