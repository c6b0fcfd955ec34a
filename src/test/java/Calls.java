/** What the tests share: a text onto the tape, and answers held against those that are due. */
final class Calls {
    private static int wrong = 0;
    private static int asked = 0;
    /** What is being tested, ahead of each answer that is not as due. */
    static String about = "";

    private Calls() {
    }

    static void due(String call, long got, long want) {
        asked++;
        if (got != want) {
            wrong++;
            System.out.println(about + call + " answered " + got + ", due is " + want);
        }
    }

    static void due(String call, boolean got, boolean want) {
        due(call, got ? 1 : 0, want ? 1 : 0);
    }

    static int asked() {
        return asked;
    }

    static void feed(CuckooLodge x, int... bytes) {
        int[] n = new int[5];
        for (int from = 0; from < bytes.length; from += 20) {
            for (int i = 0; i < 20; i++) {
                int octet = from + i < bytes.length ? bytes[from + i] : 32;
                n[i / 4] = n[i / 4] << 8 | octet;
            }
            x.feed(n[0], n[1], n[2], n[3], n[4]);
        }
        x.end(bytes.length);
    }

    static int tell(CuckooLodge x, String text) {
        feed(x, text.chars().toArray());
        return x.lodge();
    }

    static CuckooLodge of(String text) {
        CuckooLodge x = new CuckooLodge();
        due("lodge of <" + text + ">", tell(x, text) > 0, true);
        return x;
    }

    /** A text with a FAULT: '@' marks the place and is no part of the text. */
    static void fault(int kind, String marked) {
        int place = marked.indexOf('@');
        String text = marked.substring(0, place) + marked.substring(place + 1);
        CuckooLodge x = of("rooms 2;lodger old has 0 1;");
        due("lodge <" + text + ">", tell(x, text), CuckooLodge.NONE);
        due("fault(0) of <" + marked + ">", x.fault(0), kind);
        due("fault(1) of <" + marked + ">", x.fault(1), place);
        due("has(1) behind <" + marked + ">", x.has(1), 1);
    }

    static CuckooLodge right(int statements, String text) {
        CuckooLodge x = new CuckooLodge();
        due("lodge <" + text + ">", tell(x, text), statements);
        due("fault(0) of <" + text + ">", x.fault(0), 0);
        due("fault(1) of <" + text + ">", x.fault(1), CuckooLodge.NONE);
        return x;
    }

    static int meet(CuckooLodge x, int... rows) {
        feed(x, rows);
        return x.meet();
    }

    /** The bytes of an image with the byte behind them that they ask for. */
    static int[] checked(int... bytes) {
        int[] all = java.util.Arrays.copyOf(bytes, bytes.length + 1);
        int c = 227;
        for (int b : bytes) c = (5 * c + b) % 251;
        all[bytes.length] = c;
        return all;
    }

    static boolean on(CuckooLodge x, int... bytes) {
        feed(x, bytes);
        return x.on();
    }

    static int[] imageOf(CuckooLodge x) {
        int[] all = new int[x.image()];
        for (int i = 0; i < all.length; i++) all[i] = x.octet(i);
        return all;
    }

    static void close(String name) {
        System.out.println(name + ": " + asked + " answers, " + wrong + " not as due");
        if (wrong != 0) System.exit(1);
    }
}
