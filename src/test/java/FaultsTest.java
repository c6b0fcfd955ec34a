/** Texts, each with its FAULT and the place; '@' marks the place and is no part of the text. */
public final class FaultsTest {
    private static void fault(int kind, String marked) {
        Calls.fault(kind, marked);
    }

    private static void right(int statements, String text) {
        Calls.right(statements, text);
    }

    private static String times(int n, String s) {
        return s.repeat(n);
    }

    private static void rightOnes() {
        right(1, "rooms 2;");
        right(1, "\n rooms\n16 ; ");
        right(1, "rooms 0002;");
        right(5, "rooms 3;bench 0;bench 6;steps 1;knock 100;");
        right(4, "rooms 3;lodger a has 0 1;lodger cuckoo has 2 1;in cuckoo;");
        right(4, "rooms 3;yields all;leaves not all;rents 9999;");
        right(2, "rooms 3;yields[not[all]or night<1]and 2>room;");
        right(2, "rooms 3;rents if(all,min(1,2),max(night,first));");
        right(2, "rooms 3;rents " + times(7, "(") + "1" + times(7, ")") + ";");
        right(2, "rooms 3;yields " + times(7, "not ") + "all and " + times(7, "not ") + "all;");
        right(2, "rooms 3;rents (((((((1)))))))+(((((((1)))))));");
        right(60, "rooms 3;" + times(59, "bench 2;"));
        right(60, "rooms 3;" + times(59, "bench 2;") + " \n");
        StringBuilder many = new StringBuilder("rooms 3;");
        for (int i = 0; i < 16; i++) many.append("lodger n").append((char) ('a' + i)).append(" has 0 1;");
        right(17, many.toString());
    }

    private static void firstByteThatCannotBe() {
        fault(1, "@");
        fault(1, "  \n@");
        fault(1, "@;");
        fault(1, "@bench 2;rooms 3;");
        fault(1, "@room 3;");
        fault(1, "@Rooms 3;");
        fault(1, "rooms@");
        fault(1, "rooms  @");
        fault(1, "rooms @;");
        fault(1, "rooms @many;");
        fault(1, "rooms@3;");
        fault(1, "rooms 3@");
        fault(1, "rooms 3 @4;");
        fault(1, "rooms 3;@;");
        fault(1, "rooms 3;@rooms 3;");
        fault(1, "rooms 3;@has;");
        fault(1, "rooms 3;@knocks 1;");
        fault(1, "rooms 3;bench@5;");
        fault(1, "rooms 3\t;".replace("\t", "@\t"));
        fault(1, "rooms 3;bench 5@bench 5;");
        fault(1, "rooms 3;lodger @3 has 0 1;");
        fault(1, "rooms 3;lodger @max has 0 1;");
        fault(1, "rooms 3;lodger a@1 has 0 1;");
        fault(1, "rooms 3;lodger a @had 0 1;");
        fault(1, "rooms 3;lodger a has 0@,1;");
        fault(1, "rooms 3;lodger a has 0 1;in @in;");
        fault(1, "rooms 3;lodger a has 0 1;in a @a;");
        fault(1, "rooms 3;shut @a;");
        for (String own : ("rooms bench steps knock lodger has in shut yields leaves rents night room nights "
            + "empty step first if or and not all min max").split(" ")) {
            fault(1, "rooms 3;lodger @" + own + " has 0 1;");
        }
    }

    private static void tooLong() {
        fault(1, "rooms 3;lodger sevena@b has 0 1;");
        fault(1, "rooms 3;sevena@bcd;");
        fault(1, "rooms 3;in sevena@b;");
        fault(1, "rooms 3;yields sevena@b<1;");
        fault(1, "rooms 1234@5;");
        fault(1, "rooms 9999@9;");
        fault(1, "rooms 3;rents 1 1234@5;");
        fault(1, "rooms 3;1234@5;");
        fault(1, "sevena@b");
    }

    private static void formulas() {
        fault(1, "rooms 3;yields @;");
        fault(1, "rooms 3;yields 1@;");
        fault(1, "rooms 3;yields @first>1;");
        fault(1, "rooms 3;yields @bench>1;");
        fault(1, "rooms 3;leaves @step>1;");
        fault(1, "rooms 3;leaves @first>1;");
        fault(1, "rooms 3;rents @bench;");
        fault(1, "rooms 3;rents @step;");
        fault(1, "rooms 3;rents @all;");
        fault(1, "rooms 3;rents 1@<2;");
        fault(1, "rooms 3;rents @-1;");
        fault(1, "rooms 3;rents 1+@;");
        fault(1, "rooms 3;rents (1@;");
        fault(1, "rooms 3;rents min@ 1;".replace("@ ", " @"));
        fault(1, "rooms 3;rents min(1@);");
        fault(1, "rooms 3;rents min(1,2@,3);");
        fault(1, "rooms 3;rents if(1@,2,3);");
        fault(1, "rooms 3;rents if(1<2,2@);");
        fault(1, "rooms 3;rents @[1];");
        fault(1, "rooms 3;yields [all@;");
        fault(1, "rooms 3;yields [1@];");
        fault(1, "rooms 3;yields all and @or all;");
        fault(1, "rooms 3;yields all @all;");
        fault(1, "rooms 3;yields 1<2@and all;");
        fault(1, "rooms 3;yields 1<2<3;".replace("2<", "2@<"));
        fault(1, "rooms 3;yields (@all)=1;");
        fault(1, "rooms 3;lodger a has 0 1;rents @a;");
        fault(1, "rooms 3;yields all@");
    }

    private static void names() {
        fault(2, "rooms 3;lodger a has 0 1;lodger @a has 0 2;");
        fault(2, "rooms 3;lodger cuckoo has 0 1;lodger @cuckoo");
        fault(3, "rooms 3;in @a;lodger a has 0 1;");
        fault(3, "rooms 3;lodger a has 0 1;in @b");
        fault(3, "rooms 3;lodger a has 0 1;in @b2");
        fault(3, "rooms 3;lodger a has 0 1;in @aa;");
        fault(3, "rooms 3;lodger a has 0 1;in a;in @a;");
        fault(3, "rooms 3;lodger a has 0 1;lodger b has 0 1;in a;in b;in @a");
    }

    private static void numbers() {
        fault(4, "rooms @1;");
        fault(4, "rooms @0");
        fault(4, "rooms @17x");
        fault(4, "rooms 3;bench @7;");
        fault(4, "rooms 3;steps @0;");
        fault(4, "rooms 3;steps @41;");
        fault(4, "rooms 3;knock @101;");
        fault(4, "rooms 3;shut @3;");
        fault(4, "rooms 3;shut 2;shut @2;");
        fault(4, "rooms 3;lodger a has @3 1;");
        fault(4, "rooms 3;lodger a has 0 @3;");
        fault(4, "rooms 3;lodger a has 2 @2;");
        fault(4, "rooms 3;lodger a has 2 @02;");
    }

    private static void tooMany() {
        fault(5, "rooms 3;rents " + times(7, "(") + "@(1");
        fault(5, "rooms 3;yields " + times(7, "not ") + "@not all;");
        fault(5, "rooms 3;yields " + times(7, "[") + "@[all");
        fault(5, "rooms 3;yields [not (1+min(if([not @(1");
        fault(5, "rooms 3;yields [not (1+min(if([not 2*min@(1");
        fault(5, "rooms 3;yields not 1<((((((@(1");
        fault(6, "rooms 3;yields all;@yields all;");
        fault(6, "rooms 3;leaves all;@leaves 1");
        fault(6, "rooms 3;rents 1;yields all;@rents ;");
        StringBuilder many = new StringBuilder("rooms 3;");
        for (int i = 0; i < 16; i++) many.append("lodger n").append((char) ('a' + i)).append(" has 0 1;");
        fault(6, many + "@lodger na has 0 1;");
        String sixty = "rooms 3;" + times(59, "bench 2;");
        fault(6, sixty + "@bench 2;");
        fault(6, sixty + " @knock 700;");
        fault(6, sixty + "@rooms 3;");
        fault(6, sixty + "@in");
        fault(1, "rooms 3;" + times(59, "bench 2;").substring(0, 59 * 8 - 1) + "@");
    }

    public static void main(String[] args) {
        rightOnes();
        firstByteThatCannotBe();
        tooLong();
        formulas();
        names();
        numbers();
        tooMany();
        Calls.close("FaultsTest");
    }
}
