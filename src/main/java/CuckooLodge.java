import java.util.Arrays;

/**
 * A lodge whose lodgers have paid for two rooms each and sleep in one.
 * The numbered promises of the document say what each public method answers.
 */
public final class CuckooLodge {
    public static final int NONE = -1;

    private static final int MOST_ROOMS = 16;
    private static final int MOST_LODGERS = 16;
    private static final int MOST_PLACES = 6;
    private static final int MOST_STEPS = 40;
    private static final int MOST_KNOCK = 100;
    private static final int MOST_STATEMENTS = 60;
    private static final int MOST_BYTES = 1600;
    private static final int MOST_OPEN = 7;
    private static final int MOST_NIGHTS = 40;
    private static final int MOST_NIGHTS_MET = 30;
    private static final int MOST_MET = 16;
    private static final int MOST_ACTS = 20;
    private static final int MOST_KEPT = 40;
    private static final int LAST_NIGHT = 999;
    private static final int LONGEST_STAY = 99;
    private static final int MOST_RENT = 99;
    private static final int MOST_PURSE = 999999;
    private static final int MOST_VALUE = 1000000;

    // Where a lodger is, if in no room; an image tells it by the same numbers.
    private static final int ON_BENCH = 254;
    private static final int AWAY = 255;
    // The sleeper that a row of MET tells for a room with nobody in it.
    private static final int NOBODY = 255;

    private static final int YIELDS = 0;
    private static final int LEAVES = 1;
    private static final int RENTS = 2;

    // A formula is a row of codes in the order in which they are reckoned: numbers as they are, the rest below 0.
    private static final int V_NIGHT = -1;
    private static final int V_ROOM = -2;
    private static final int V_NIGHTS = -3;
    private static final int V_EMPTY = -4;
    private static final int V_OWN = -5;
    private static final int PLUS = -6;
    private static final int MINUS = -7;
    private static final int TIMES = -8;
    private static final int OVER = -9;
    private static final int REST = -10;
    private static final int LEAST = -11;
    private static final int GREATEST = -12;
    private static final int BELOW = -13;
    private static final int ABOVE = -14;
    private static final int EQUAL = -15;
    private static final int BOTH = -16;
    private static final int EITHER = -17;
    private static final int NOT = -18;
    private static final int SELECT = -19;

    private static final int TAPE_REFUSED = 0;
    private static final int LODGE_REFUSED = 1;
    private static final int NIGHTS_REFUSED = 2;
    private static final int ACT_REFUSED = 3;
    private static final int UNDO_REFUSED = 4;
    private static final int REST_REFUSED = 5;
    private static final int REFUSALS = 6;

    private final int[] tape = new int[MOST_BYTES];
    private int tapeLength = 0;
    // Two plans change places, so that a text with a fault leaves the lodge that stands alone.
    private Plan plan = new Plan();
    private Plan draft = new Plan();
    private final Grammar grammar = new Grammar(draft);
    private final House house = new House(plan);
    private final State now = new State();
    private final State ahead = new State();
    private final Kept keptNow = new Kept();
    private final Past past = new Past();
    private final Steps steps = new Steps();
    private final Beds beds = new Beds();
    private final Image picture = new Image();
    private final int[] refusals = new int[REFUSALS];
    private int drawn = 1;
    private int latestFault = 0;
    private int latestPlace = NONE;

    public CuckooLodge() {
    }

    // ---- the tape and the lodge

    public int feed(int a, int b, int c, int d, int e) {
        if (tapeLength + 20 > MOST_BYTES) {
            return refused(TAPE_REFUSED);
        }
        putFour(a);
        putFour(b);
        putFour(c);
        putFour(d);
        putFour(e);
        return tapeLength;
    }

    private void putFour(int number) {
        for (int shift = 24; shift >= 0 && tapeLength < MOST_BYTES; shift -= 8) {
            tape[tapeLength] = number >> shift & 255;
            tapeLength++;
        }
    }

    public boolean end(int n) {
        if (n < 0 || n > tapeLength) {
            refusals[TAPE_REFUSED]++;
            return false;
        }
        tapeLength = n;
        return true;
    }

    public int lodge() {
        boolean right = grammar.readText(tape, tapeLength, draft);
        tapeLength = 0;
        latestFault = grammar.fault;
        latestPlace = grammar.place;
        if (!right) {
            return refused(LODGE_REFUSED);
        }
        Plan older = plan;
        plan = draft;
        draft = older;
        house.plan = plan;
        openHouse();
        return plan.statements;
    }

    private void openHouse() {
        now.emptyAll(plan.shut);
        keptNow.count = 0;
        past.count = 0;
        steps.rows = 0;
        for (int i = 0; i < plan.comers; i++) {
            house.arrive(now, plan.comer[i], plan.steps);
        }
    }

    public int fault(int what) {
        if (what == 0) {
            return latestFault;
        }
        return what == 1 ? latestPlace : NONE;
    }

    public int has(int what) {
        switch (what) {
            case 0: return plan.rooms;
            case 1: return plan.lodgers;
            case 2: return Integer.bitCount(now.taken);
            case 3: return now.waiting;
            case 4: return plan.lodgers - Integer.bitCount(now.taken) - now.waiting;
            case 5: return plan.rooms - Integer.bitCount(now.shut | now.taken);
            case 6: return Integer.bitCount(now.shut);
            case 7: return now.night;
            case 8: return now.purse;
            case 9: return plan.places;
            case 10: return plan.steps;
            case 11: return keptNow.count;
            case 12: return steps.rows;
            case 13: return past.count;
            case 14: return drawn;
            default: return NONE;
        }
    }

    public int letter(int lodger, int k) {
        if (!plan.isLodger(lodger) || k < 0 || k >= Words.LONGEST_WORD) {
            return NONE;
        }
        return Words.letterOf(plan.name[lodger], k);
    }

    public int room(int room, int what) {
        if (!plan.isRoom(room)) {
            return NONE;
        }
        switch (what) {
            case 0: return now.sleeper[room];
            case 1: return now.shut >> room & 1;
            case 2: return now.isFree(room) ? 1 : 0;
            case 3: return plan.holders(room);
            case 4: return house.yieldsIn(now, room, 0, plan.steps) ? 1 : 0;
            default: return NONE;
        }
    }

    public int lodger(int lodger, int what) {
        if (!plan.isLodger(lodger)) {
            return NONE;
        }
        switch (what) {
            case 0: return plan.first[lodger];
            case 1: return plan.other[lodger];
            case 2: return now.isSleeper(lodger) ? now.where[lodger] : NONE;
            case 3: return now.stay[lodger];
            case 4: return now.placeOf(lodger);
            default: return NONE;
        }
    }

    public int bench(int k) {
        return k >= 0 && k < now.waiting ? now.bench[k] : NONE;
    }

    // ---- ahead

    public int chain(int lodger, int k) {
        if (!isAway(lodger)) {
            return NONE;
        }
        ahead.copy(now);
        int count = house.arrive(ahead, lodger, plan.steps);
        if (k == NONE) {
            return count;
        }
        return k >= 0 && k < count ? house.outLodger[k] : NONE;
    }

    public int later(int room, int n) {
        if (!plan.isRoom(room) || !canBeAhead(n)) {
            return NONE;
        }
        ahead.copy(now);
        for (int i = 0; i < n; i++) {
            house.passNight(ahead, false);
        }
        return ahead.sleeper[room];
    }

    public int sleeps(int lodger) {
        // Without DRAWS nobody COMES, so one who is AWAY stays so.
        if (!plan.isLodger(lodger) || now.where[lodger] == AWAY) {
            return NONE;
        }
        ahead.copy(now);
        for (int n = 0; n <= MOST_NIGHTS && now.night + n <= LAST_NIGHT; n++) {
            if (n > 0) {
                house.passNight(ahead, false);
            }
            if (ahead.isSleeper(lodger)) {
                return n;
            }
        }
        return NONE;
    }

    public int purse(int n) {
        if (!hasLodge() || !canBeAhead(n)) {
            return NONE;
        }
        ahead.copy(now);
        for (int i = 0; i < n; i++) {
            house.passNight(ahead, true);
        }
        return ahead.purse;
    }

    private boolean canBeAhead(int n) {
        return n >= 0 && n <= MOST_NIGHTS && now.night + n <= LAST_NIGHT;
    }

    // ---- who can sleep at once

    public int most(int set) {
        if (!isSet(set)) {
            return NONE;
        }
        return Integer.bitCount(set) - Integer.bitCount(beds.leftOver(plan, now.shut, set));
    }

    public int ways(int set) {
        if (!isSet(set)) {
            return NONE;
        }
        return beds.leftOver(plan, now.shut, set) == 0 ? beds.countWays(plan.rooms) : 0;
    }

    public int turned(int set) {
        return isSet(set) ? beds.leftOver(plan, now.shut, set) : NONE;
    }

    public int crowd() {
        return beds.leastCrowd(plan, now.shut);
    }

    public int clear(int room) {
        return plan.isRoom(room) ? house.movesToFree(now, room) : NONE;
    }

    public int moves(int lodger) {
        if (!plan.isLodger(lodger) || now.isSleeper(lodger)) {
            return NONE;
        }
        int byFirst = house.movesToFree(now, plan.first[lodger]);
        int byOther = house.movesToFree(now, plan.other[lodger]);
        if (byFirst == NONE) {
            return byOther;
        }
        return byOther == NONE ? byFirst : Math.min(byFirst, byOther);
    }

    public int odds(int lodger) {
        if (plan.lodgers == 0 || now.night >= LAST_NIGHT) {
            return NONE;
        }
        if (lodger == NONE) {
            return 100 * plan.lodgers;
        }
        if (!plan.isLodger(lodger)) {
            return NONE;
        }
        int unknocked = sleepsAfterKnock(lodger, NONE);
        int rows = (100 - plan.knock) * plan.lodgers * unknocked;
        for (int knocker = 0; knocker < plan.lodgers; knocker++) {
            rows += plan.knock * (isAway(knocker) ? sleepsAfterKnock(lodger, knocker) : unknocked);
        }
        return rows;
    }

    private int sleepsAfterKnock(int lodger, int knocker) {
        ahead.copy(now);
        if (knocker != NONE) {
            house.arrive(ahead, knocker, plan.steps);
        }
        house.passNight(ahead, false);
        return ahead.isSleeper(lodger) ? 1 : 0;
    }

    // ---- how many steps

    public int meet() {
        boolean right = steps.meetRows(tape, tapeLength, plan);
        tapeLength = 0;
        return right ? steps.rows : refused(REST_REFUSED);
    }

    public int stepped(int lodger, int k) {
        if (!isAway(lodger)) {
            return NONE;
        }
        steps.sift(house, now, lodger);
        return k == NONE ? steps.countLeft() : steps.leftAt(k);
    }

    public int tells(int lodger, int what) {
        if (!isAway(lodger) || what < 0 || what > 2) {
            return NONE;
        }
        steps.sift(house, now, lodger);
        steps.findTelling(house, now, lodger);
        if (what == 0) {
            return steps.tellingNight;
        }
        return what == 1 ? steps.tellingRoom : steps.tellingLeft;
    }

    // ---- acts

    public int come(int lodger) {
        if (!isAway(lodger)) {
            return refused(ACT_REFUSED);
        }
        past.remember(now, keptNow);
        return arriveNow(lodger);
    }

    private int arriveNow(int lodger) {
        int count = house.arrive(now, lodger, plan.steps);
        for (int i = 0; i < count; i++) {
            keptNow.add(now.night, house.outLodger[i], house.outRoom[i]);
        }
        return count;
    }

    public boolean go(int lodger) {
        if (!plan.isLodger(lodger) || now.where[lodger] == AWAY) {
            refusals[ACT_REFUSED]++;
            return false;
        }
        past.remember(now, keptNow);
        now.sendAway(lodger);
        return true;
    }

    public boolean shut(int room, int on) {
        if (!canShut(room, on)) {
            refusals[ACT_REFUSED]++;
            return false;
        }
        past.remember(now, keptNow);
        now.shut ^= 1 << room;
        return true;
    }

    private boolean canShut(int room, int on) {
        if (!plan.isRoom(room)) {
            return false;
        }
        if (on == 1) {
            return now.isFree(room);
        }
        return on == 0 && (now.shut >> room & 1) == 1;
    }

    public int nights(int n) {
        if (!canGoBy(n)) {
            return refused(NIGHTS_REFUSED);
        }
        past.remember(now, keptNow);
        int paid = 0;
        for (int i = 0; i < n; i++) {
            paid += house.passNight(now, true);
        }
        return paid;
    }

    public int chance(int n) {
        if (!canGoBy(n)) {
            return refused(NIGHTS_REFUSED);
        }
        past.remember(now, keptNow);
        int came = 0;
        for (int i = 0; i < n; i++) {
            int knocker = drawKnocker();
            if (isAway(knocker)) {
                arriveNow(knocker);
                came++;
            }
            house.passNight(now, true);
        }
        return came;
    }

    private boolean canGoBy(int n) {
        return hasLodge() && n >= 1 && canBeAhead(n);
    }

    private int drawKnocker() {
        boolean knocks = draw(100) < plan.knock;
        return knocks && plan.lodgers > 0 ? draw(plan.lodgers) : NONE;
    }

    private int draw(int m) {
        drawn = (int) ((1103515245L * drawn + 12345L) & 0x7fffffffL);
        return m > 0 ? drawn / 64 % m : 0;
    }

    public boolean undo() {
        if (past.count == 0) {
            refusals[UNDO_REFUSED]++;
            return false;
        }
        past.bringBack(now, keptNow);
        return true;
    }

    public boolean seed(int seed) {
        if (seed < 0) {
            refusals[REST_REFUSED]++;
            return false;
        }
        drawn = seed;
        return true;
    }

    public int kept(int k, int what) {
        return keptNow.tell(k, what);
    }

    // ---- images, refusals

    public int image() {
        picture.write(now, plan);
        return picture.length;
    }

    public int octet(int k) {
        return k >= 0 && k < picture.length ? picture.bytes[k] : NONE;
    }

    public boolean on() {
        boolean right = hasLodge() && picture.read(tape, tapeLength, plan, ahead);
        tapeLength = 0;
        if (!right) {
            refusals[REST_REFUSED]++;
            return false;
        }
        now.copy(ahead);
        keptNow.count = 0;
        past.count = 0;
        return true;
    }

    public int status(int what) {
        return what >= 0 && what < REFUSALS ? refusals[what] : NONE;
    }

    private int refused(int kind) {
        refusals[kind]++;
        return NONE;
    }

    private boolean hasLodge() {
        return plan.statements > 0;
    }

    private boolean isAway(int lodger) {
        return plan.isLodger(lodger) && now.where[lodger] == AWAY;
    }

    private boolean isSet(int set) {
        return set >= 0 && set >> plan.lodgers == 0;
    }

    /** What a text tells, for as long as it is THE LODGE. */
    private static final class Plan {
        int statements = 0;
        int rooms = 0;
        int places = 0;
        int steps = 0;
        int knock = 0;
        int shut = 0;
        int lodgers = 0;
        int comers = 0;
        int codes = 0;
        final int[] name = new int[MOST_LODGERS];
        final int[] first = new int[MOST_LODGERS];
        final int[] other = new int[MOST_LODGERS];
        final int[] comer = new int[MOST_LODGERS];
        // No formula needs more codes than its text has bytes.
        final int[] code = new int[MOST_BYTES];
        final int[] from = new int[3];
        final int[] to = new int[3];

        void begin() {
            statements = 0;
            rooms = 0;
            places = 1;
            steps = 10;
            knock = 0;
            shut = 0;
            lodgers = 0;
            comers = 0;
            codes = 0;
            Arrays.fill(from, 0);
            Arrays.fill(to, 0);
        }

        boolean isRoom(int room) {
            return room >= 0 && room < rooms;
        }

        boolean isLodger(int lodger) {
            return lodger >= 0 && lodger < lodgers;
        }

        boolean hasFormula(int which) {
            return to[which] > from[which];
        }

        int otherRoom(int lodger, int room) {
            return first[lodger] == room ? other[lodger] : first[lodger];
        }

        int openRooms(int lodger, int shutNow) {
            return (1 << first[lodger] | 1 << other[lodger]) & ~shutNow;
        }

        int holders(int room) {
            int count = 0;
            for (int i = 0; i < lodgers; i++) {
                if (first[i] == room || other[i] == room) {
                    count++;
                }
            }
            return count;
        }

        int lodgerNamed(int word) {
            for (int i = 0; i < lodgers; i++) {
                if (name[i] == word) {
                    return i;
                }
            }
            return NONE;
        }

        boolean isComer(int lodger) {
            for (int i = 0; i < comers; i++) {
                if (comer[i] == lodger) {
                    return true;
                }
            }
            return false;
        }

        void addCode(int what) {
            if (codes < code.length) {
                code[codes] = what;
                codes++;
            }
        }
    }

    /** Cuts a text into words, numbers and signs. */
    private static final class Words {
        static final int LONGEST_WORD = 6;
        static final int LONGEST_NUMBER = 4;
        // A word is one number to this base. No letter is 0 in it, so unlike words are unlike numbers.
        static final int LETTER_BASE = 27;

        static final int END = 0;
        static final int WORD = 1;
        static final int NUMBER = 2;
        static final int SIGN = 3;
        static final int BAD = 4;

        static final String OWN_WORDS = "rooms bench steps knock lodger has in shut yields leaves rents night room nights empty step first if or and not all min max ";
        static final int ROOMS = 0;
        static final int BENCH = 1;
        static final int STEPS = 2;
        static final int KNOCK = 3;
        static final int LODGER = 4;
        static final int HAS = 5;
        static final int IN = 6;
        static final int SHUT = 7;
        static final int YIELDS_WORD = 8;
        static final int LEAVES_WORD = 9;
        static final int RENTS_WORD = 10;
        static final int NIGHT = 11;
        static final int ROOM = 12;
        static final int NIGHTS = 13;
        static final int EMPTY = 14;
        static final int STEP = 15;
        static final int FIRST = 16;
        static final int IF = 17;
        static final int OR = 18;
        static final int AND = 19;
        static final int NOT_WORD = 20;
        static final int ALL = 21;
        static final int MIN = 22;
        static final int MAX = 23;
        static final int OWN_COUNT = 24;

        private final int[] own = new int[OWN_COUNT];
        private int[] text = new int[0];
        private int length = 0;
        private int at = 0;
        // Of the token that is looked at: its kind, its first byte, its number, which OWN WORD it is.
        int kind = END;
        int start = 0;
        int value = 0;
        int which = NONE;
        // Where FAULT 1 is, if this token cannot stand here.
        int faultAt = 0;

        Words() {
            int word = 0;
            for (int i = 0; i < OWN_WORDS.length() && word < OWN_COUNT; i++) {
                if (OWN_WORDS.charAt(i) == ' ') {
                    word++;
                } else {
                    own[word] = own[word] * LETTER_BASE + OWN_WORDS.charAt(i) - 'a' + 1;
                }
            }
        }

        static int letterOf(int word, int k) {
            int letters = 0;
            for (int rest = word; rest > 0 && letters < LONGEST_WORD; rest /= LETTER_BASE) {
                letters++;
            }
            int upToIt = k < letters ? word : 0;
            for (int i = letters - 1; i > k; i--) {
                upToIt /= LETTER_BASE;
            }
            return upToIt % LETTER_BASE;
        }

        void begin(int[] bytes, int count) {
            text = bytes;
            length = Math.min(count, bytes.length);
            at = 0;
            kind = END;
            advance();
        }

        void advance() {
            boolean behindWord = kind == WORD || kind == NUMBER;
            int behind = at;
            while (at < length && (text[at] == ' ' || text[at] == 10)) {
                at++;
            }
            start = at;
            faultAt = at;
            value = 0;
            if (at >= length) {
                kind = END;
            } else if (isLetter(text[at])) {
                kind = WORD;
                readRun('a', 'z', 1, LONGEST_WORD);
            } else if (isDigit(text[at])) {
                kind = NUMBER;
                readRun('0', '9', 0, LONGEST_NUMBER);
            } else {
                kind = SIGN;
                value = text[at];
                at++;
            }
            if (behindWord && behind == start && kind != END && kind != SIGN) {
                kind = BAD;
                faultAt = start;
            }
            which = kind == WORD ? ownWord(value) : NONE;
        }

        /** 'worth' is what the first of these signs counts in the word's or number's value. */
        private void readRun(int first, int last, int worth, int longest) {
            int base = last - first + 1 + worth;
            while (at < length && text[at] >= first && text[at] <= last) {
                if (at - start == longest) {
                    kind = BAD;
                    faultAt = at;
                    return;
                }
                value = value * base + text[at] - first + worth;
                at++;
            }
        }

        private int ownWord(int word) {
            for (int i = 0; i < OWN_COUNT; i++) {
                if (own[i] == word) {
                    return i;
                }
            }
            return NONE;
        }

        private static boolean isLetter(int sign) {
            return sign >= 'a' && sign <= 'z';
        }

        private static boolean isDigit(int sign) {
            return sign >= '0' && sign <= '9';
        }

        boolean isOwn(int word) {
            return kind == WORD && which == word;
        }

        boolean isSign(int sign) {
            return kind == SIGN && value == sign;
        }
    }

    /** Reads a text into a plan, up to its first FAULT. */
    private static final class Grammar {
        int fault = 0;
        int place = NONE;
        private final Words words = new Words();
        private Plan plan;
        private int formula = YIELDS;

        Grammar(Plan first) {
            plan = first;
        }

        boolean readText(int[] text, int length, Plan into) {
            fault = 0;
            place = NONE;
            plan = into;
            plan.begin();
            words.begin(text, length);
            for (int n = 0; n <= MOST_STATEMENTS && words.kind != Words.END; n++) {
                if (n == MOST_STATEMENTS) {
                    return faulty(6);
                }
                if (!readStatement() || !takeSign(';')) {
                    return false;
                }
                plan.statements++;
            }
            return plan.statements > 0 || unexpected();
        }

        private boolean unexpected() {
            fault = 1;
            place = words.faultAt;
            return false;
        }

        private boolean faulty(int kind) {
            fault = kind;
            place = words.start;
            return false;
        }

        private boolean takeSign(int sign) {
            if (!words.isSign(sign)) {
                return unexpected();
            }
            words.advance();
            return true;
        }

        private boolean readStatement() {
            int word = words.kind == Words.WORD ? words.which : NONE;
            if ((plan.statements == 0) != (word == Words.ROOMS)) {
                return unexpected();
            }
            switch (word) {
                case Words.ROOMS:
                case Words.BENCH:
                case Words.STEPS:
                case Words.KNOCK:
                case Words.SHUT:
                    words.advance();
                    return readSetting(word);
                case Words.LODGER:
                    return readLodger();
                case Words.IN:
                    words.advance();
                    return readComer();
                case Words.YIELDS_WORD:
                case Words.LEAVES_WORD:
                case Words.RENTS_WORD:
                    return readFormula(word - Words.YIELDS_WORD);
                default:
                    return unexpected();
            }
        }

        private boolean isNumber(int low, int high) {
            if (words.kind != Words.NUMBER) {
                return unexpected();
            }
            return words.value >= low && words.value <= high || faulty(4);
        }

        private boolean readSetting(int word) {
            int low = word == Words.ROOMS ? 2 : word == Words.STEPS ? 1 : 0;
            if (!isNumber(low, highest(word))) {
                return false;
            }
            int number = words.value;
            if (word == Words.SHUT && (plan.shut >> number & 1) == 1) {
                return faulty(4);
            }
            words.advance();
            switch (word) {
                case Words.ROOMS:
                    plan.rooms = number;
                    break;
                case Words.BENCH:
                    plan.places = number;
                    break;
                case Words.STEPS:
                    plan.steps = number;
                    break;
                case Words.KNOCK:
                    plan.knock = number;
                    break;
                default:
                    plan.shut |= 1 << number;
                    break;
            }
            return true;
        }

        private int highest(int word) {
            switch (word) {
                case Words.ROOMS: return MOST_ROOMS;
                case Words.BENCH: return MOST_PLACES;
                case Words.STEPS: return MOST_STEPS;
                case Words.KNOCK: return MOST_KNOCK;
                default: return plan.rooms - 1;
            }
        }

        private boolean readLodger() {
            if (plan.lodgers >= MOST_LODGERS) {
                return faulty(6);
            }
            words.advance();
            if (words.kind != Words.WORD || words.which != NONE) {
                return unexpected();
            }
            if (plan.lodgerNamed(words.value) != NONE) {
                return faulty(2);
            }
            plan.name[plan.lodgers] = words.value;
            words.advance();
            if (!words.isOwn(Words.HAS)) {
                return unexpected();
            }
            words.advance();
            return readRoomsOf(plan.lodgers);
        }

        private boolean readRoomsOf(int lodger) {
            if (!isNumber(0, plan.rooms - 1)) {
                return false;
            }
            plan.first[lodger] = words.value;
            words.advance();
            if (!isNumber(0, plan.rooms - 1)) {
                return false;
            }
            if (words.value == plan.first[lodger]) {
                return faulty(4);
            }
            plan.other[lodger] = words.value;
            words.advance();
            plan.lodgers++;
            return true;
        }

        private boolean readComer() {
            if (words.kind != Words.WORD || words.which != NONE) {
                return unexpected();
            }
            int lodger = plan.lodgerNamed(words.value);
            if (lodger == NONE || plan.isComer(lodger) || plan.comers >= MOST_LODGERS) {
                return faulty(3);
            }
            plan.comer[plan.comers] = lodger;
            plan.comers++;
            words.advance();
            return true;
        }

        private boolean readFormula(int which) {
            if (plan.hasFormula(which)) {
                return faulty(6);
            }
            formula = which;
            words.advance();
            int from = plan.codes;
            if (which == RENTS ? !readSum(0) : !readTest(0)) {
                return false;
            }
            plan.from[which] = from;
            plan.to[which] = plan.codes;
            return true;
        }

        // In what follows 'open' counts the ( [ not that stand open; FAULT 5 keeps it low.

        private boolean readTest(int open) {
            if (!readBoth(open)) {
                return false;
            }
            for (int n = 0; n < MOST_BYTES && words.isOwn(Words.OR); n++) {
                words.advance();
                if (!readBoth(open)) {
                    return false;
                }
                plan.addCode(EITHER);
            }
            return true;
        }

        private boolean readBoth(int open) {
            if (!readFact(open)) {
                return false;
            }
            for (int n = 0; n < MOST_BYTES && words.isOwn(Words.AND); n++) {
                words.advance();
                if (!readFact(open)) {
                    return false;
                }
                plan.addCode(BOTH);
            }
            return true;
        }

        private boolean readFact(int open) {
            if (words.isOwn(Words.NOT_WORD)) {
                if (!opens(open) || !readFact(open + 1)) {
                    return false;
                }
                plan.addCode(NOT);
                return true;
            }
            if (words.isSign('[')) {
                return opens(open) && readTest(open + 1) && takeSign(']');
            }
            if (words.isOwn(Words.ALL)) {
                words.advance();
                plan.addCode(1);
                return true;
            }
            return readSum(open) && readComparison(open);
        }

        private boolean readComparison(int open) {
            int code = words.isSign('<') ? BELOW : words.isSign('>') ? ABOVE : words.isSign('=') ? EQUAL : 0;
            if (code == 0) {
                return unexpected();
            }
            words.advance();
            if (!readSum(open)) {
                return false;
            }
            plan.addCode(code);
            return true;
        }

        private boolean opens(int open) {
            if (open >= MOST_OPEN) {
                return faulty(5);
            }
            words.advance();
            return true;
        }

        private boolean readSum(int open) {
            if (!readProduct(open)) {
                return false;
            }
            for (int n = 0; n < MOST_BYTES && (words.isSign('+') || words.isSign('-')); n++) {
                int code = words.isSign('+') ? PLUS : MINUS;
                words.advance();
                if (!readProduct(open)) {
                    return false;
                }
                plan.addCode(code);
            }
            return true;
        }

        private boolean readProduct(int open) {
            if (!readPart(open)) {
                return false;
            }
            for (int n = 0; n < MOST_BYTES; n++) {
                int code = words.isSign('*') ? TIMES : words.isSign('/') ? OVER : words.isSign('%') ? REST : 0;
                if (code == 0) {
                    return true;
                }
                words.advance();
                if (!readPart(open)) {
                    return false;
                }
                plan.addCode(code);
            }
            return true;
        }

        private boolean readPart(int open) {
            if (words.isSign('(')) {
                return opens(open) && readSum(open + 1) && takeSign(')');
            }
            if (words.isOwn(Words.MIN)) {
                return readPair(open, LEAST);
            }
            if (words.isOwn(Words.MAX)) {
                return readPair(open, GREATEST);
            }
            if (words.isOwn(Words.IF)) {
                return readChoice(open);
            }
            if (words.kind == Words.NUMBER) {
                plan.addCode(words.value);
            } else {
                int code = variable();
                if (code == 0) {
                    return unexpected();
                }
                plan.addCode(code);
            }
            words.advance();
            return true;
        }

        private int variable() {
            int ownPart = formula == YIELDS ? Words.STEP : formula == LEAVES ? Words.BENCH : Words.FIRST;
            if (words.isOwn(ownPart)) {
                return V_OWN;
            }
            switch (words.which) {
                case Words.NIGHT: return V_NIGHT;
                case Words.ROOM: return V_ROOM;
                case Words.NIGHTS: return V_NIGHTS;
                case Words.EMPTY: return V_EMPTY;
                default: return 0;
            }
        }

        private boolean readPair(int open, int code) {
            words.advance();
            if (!words.isSign('(')) {
                return unexpected();
            }
            if (!opens(open) || !readSum(open + 1) || !takeSign(',') || !readSum(open + 1)) {
                return false;
            }
            plan.addCode(code);
            return takeSign(')');
        }

        private boolean readChoice(int open) {
            words.advance();
            if (!words.isSign('(')) {
                return unexpected();
            }
            if (!opens(open) || !readTest(open + 1) || !takeSign(',')) {
                return false;
            }
            if (!readSum(open + 1) || !takeSign(',') || !readSum(open + 1)) {
                return false;
            }
            plan.addCode(SELECT);
            return takeSign(')');
        }
    }

    /** Reckons a formula for one SLEEPER. */
    private static final class Reckoner {
        // Seven open signs with five values that wait ahead of each need less.
        private final int[] stack = new int[64];
        private int night = 0;
        private int room = 0;
        private int stay = 0;
        private int empty = 0;
        private int own = 0;

        /** 'ownPart' is what just this formula may ask: step, bench or first. */
        int reckon(Plan plan, int formula, State s, int lodger, int ownPart) {
            night = s.night;
            room = s.where[lodger];
            stay = s.stay[lodger];
            empty = plan.rooms - Integer.bitCount(s.shut | s.taken);
            own = ownPart;
            int top = 0;
            for (int i = plan.from[formula]; i < plan.to[formula]; i++) {
                int code = plan.code[i];
                int taken = operands(code);
                if (top < taken || top - taken >= stack.length) {
                    return 0;
                }
                top -= taken;
                stack[top] = taken == 0 ? simple(code) : limited(joined(code, top));
                top++;
            }
            return top > 0 ? stack[top - 1] : 0;
        }

        private static int operands(int code) {
            if (code >= V_OWN) {
                return 0;
            }
            return code == NOT ? 1 : code == SELECT ? 3 : 2;
        }

        private int simple(int code) {
            switch (code) {
                case V_NIGHT: return night;
                case V_ROOM: return room;
                case V_NIGHTS: return stay;
                case V_EMPTY: return empty;
                case V_OWN: return own;
                default: return code;
            }
        }

        private long joined(int code, int at) {
            long a = stack[at];
            // NOT takes one value alone; what stands behind it is not looked at.
            long b = at + 1 < stack.length ? stack[at + 1] : 0;
            switch (code) {
                case PLUS: return a + b;
                case MINUS: return a - b;
                case TIMES: return a * b;
                case OVER: return b == 0 ? 0 : Math.floorDiv(a, b);
                case REST: return b == 0 ? 0 : Math.floorMod(a, b);
                case LEAST: return Math.min(a, b);
                case GREATEST: return Math.max(a, b);
                case BELOW: return a < b ? 1 : 0;
                case ABOVE: return a > b ? 1 : 0;
                case EQUAL: return a == b ? 1 : 0;
                case BOTH: return a & b;
                case EITHER: return a | b;
                case NOT: return 1 - a;
                default: return a != 0 || at + 2 >= stack.length ? b : stack[at + 2];
            }
        }

        private static int limited(long value) {
            return (int) Math.max(-MOST_VALUE, Math.min(MOST_VALUE, value));
        }
    }

    /** Who is where, in what NIGHT, with what in the purse. */
    private static final class State {
        int night = 0;
        int purse = 0;
        int shut = 0;
        int taken = 0;
        int waiting = 0;
        final int[] sleeper = new int[MOST_ROOMS];
        final int[] where = new int[MOST_LODGERS];
        final int[] stay = new int[MOST_LODGERS];
        final int[] bench = new int[MOST_PLACES];

        State() {
            Arrays.fill(sleeper, NONE);
            Arrays.fill(where, AWAY);
        }

        void emptyAll(int shutRooms) {
            night = 0;
            purse = 0;
            shut = shutRooms;
            taken = 0;
            waiting = 0;
            Arrays.fill(sleeper, NONE);
            Arrays.fill(where, AWAY);
            Arrays.fill(stay, 0);
        }

        void copy(State from) {
            night = from.night;
            purse = from.purse;
            shut = from.shut;
            taken = from.taken;
            waiting = from.waiting;
            System.arraycopy(from.sleeper, 0, sleeper, 0, MOST_ROOMS);
            System.arraycopy(from.where, 0, where, 0, MOST_LODGERS);
            System.arraycopy(from.stay, 0, stay, 0, MOST_LODGERS);
            System.arraycopy(from.bench, 0, bench, 0, MOST_PLACES);
        }

        boolean isFree(int room) {
            return ((shut | taken) >> room & 1) == 0;
        }

        boolean isSleeper(int lodger) {
            return where[lodger] < MOST_ROOMS;
        }

        int placeOf(int lodger) {
            for (int i = 0; i < waiting; i++) {
                if (bench[i] == lodger) {
                    return i;
                }
            }
            return NONE;
        }

        void putToBed(int lodger, int room) {
            sleeper[room] = lodger;
            taken |= 1 << room;
            where[lodger] = room;
            stay[lodger] = 0;
        }

        void putOnBench(int lodger, int places) {
            stay[lodger] = 0;
            if (waiting < places && waiting < MOST_PLACES) {
                where[lodger] = ON_BENCH;
                bench[waiting] = lodger;
                waiting++;
            } else {
                where[lodger] = AWAY;
            }
        }

        void sendAway(int lodger) {
            if (isSleeper(lodger)) {
                taken &= ~(1 << where[lodger]);
                sleeper[where[lodger]] = NONE;
            } else if (where[lodger] == ON_BENCH) {
                takeFromBench(lodger);
            }
            where[lodger] = AWAY;
            stay[lodger] = 0;
        }

        private void takeFromBench(int lodger) {
            int left = 0;
            for (int i = 0; i < waiting; i++) {
                if (bench[i] != lodger) {
                    bench[left] = bench[i];
                    left++;
                }
            }
            waiting = left;
        }
    }

    /** Who was PUT OUT: the last ones alone. */
    private static final class Kept {
        int count = 0;
        // From the oldest on, in a ring; one number holds NIGHT, LODGER and ROOM.
        private int oldest = 0;
        private final int[] rows = new int[MOST_KEPT];

        void add(int night, int lodger, int room) {
            rows[(oldest + count) % MOST_KEPT] = night << 8 | lodger << 4 | room;
            if (count < MOST_KEPT) {
                count++;
            } else {
                oldest = (oldest + 1) % MOST_KEPT;
            }
        }

        int tell(int k, int what) {
            if (k < 0 || k >= count) {
                return NONE;
            }
            int row = rows[(oldest + k) % MOST_KEPT];
            switch (what) {
                case 0: return row >> 8;
                case 1: return row >> 4 & 15;
                case 2: return row & 15;
                default: return NONE;
            }
        }

        void copy(Kept from) {
            count = from.count;
            oldest = from.oldest;
            System.arraycopy(from.rows, 0, rows, 0, MOST_KEPT);
        }
    }

    /** What was ahead of each of the last ACTS. */
    private static final class Past {
        int count = 0;
        private int next = 0;
        private final State[] states = new State[MOST_ACTS];
        private final Kept[] rows = new Kept[MOST_ACTS];

        Past() {
            for (int i = 0; i < MOST_ACTS; i++) {
                states[i] = new State();
                rows[i] = new Kept();
            }
        }

        void remember(State state, Kept kept) {
            states[next].copy(state);
            rows[next].copy(kept);
            next = (next + 1) % MOST_ACTS;
            count = Math.min(count + 1, MOST_ACTS);
        }

        void bringBack(State state, Kept kept) {
            next = (next + MOST_ACTS - 1) % MOST_ACTS;
            count--;
            state.copy(states[next]);
            kept.copy(rows[next]);
        }
    }

    /** The rules by which LODGERS COME and NIGHTS go by. */
    private static final class House {
        Plan plan;
        private final Reckoner reckoner = new Reckoner();
        // Who was PUT OUT of which ROOM in the latest COMING.
        final int[] outLodger = new int[MOST_STEPS];
        final int[] outRoom = new int[MOST_STEPS];

        House(Plan first) {
            plan = first;
        }

        int arrive(State s, int lodger, int steps) {
            if (sleepsInFree(s, lodger)) {
                return 0;
            }
            int out = 0;
            int guest = lodger;
            int room = plan.first[lodger];
            if (!yieldsIn(s, room, out, steps)) {
                room = yieldsIn(s, plan.other[lodger], out, steps) ? plan.other[lodger] : NONE;
            }
            while (room != NONE && out < steps && out < MOST_STEPS) {
                int sleeper = s.sleeper[room];
                s.putToBed(guest, room);
                outLodger[out] = sleeper;
                outRoom[out] = room;
                out++;
                guest = sleeper;
                int next = plan.otherRoom(guest, room);
                if (s.isFree(next)) {
                    s.putToBed(guest, next);
                    return out;
                }
                room = yieldsIn(s, next, out, steps) ? next : NONE;
            }
            s.putOnBench(guest, plan.places);
            return out;
        }

        private boolean sleepsInFree(State s, int lodger) {
            int room = s.isFree(plan.first[lodger]) ? plan.first[lodger] : plan.other[lodger];
            if (!s.isFree(room)) {
                return false;
            }
            s.putToBed(lodger, room);
            return true;
        }

        boolean yieldsIn(State s, int room, int out, int steps) {
            int lodger = s.sleeper[room];
            if (lodger == NONE || out >= steps) {
                return false;
            }
            return !plan.hasFormula(YIELDS) || reckoner.reckon(plan, YIELDS, s, lodger, out) != 0;
        }

        /** How much was paid; where nobody asks the purse, nobody needs to pay. */
        int passNight(State s, boolean paying) {
            seatFromBench(s);
            int paid = paying ? collectRents(s) : 0;
            endNight(s);
            return paid;
        }

        private void seatFromBench(State s) {
            int left = 0;
            for (int i = 0; i < s.waiting; i++) {
                int lodger = s.bench[i];
                if (!sleepsInFree(s, lodger)) {
                    s.bench[left] = lodger;
                    left++;
                }
            }
            s.waiting = left;
        }

        private int collectRents(State s) {
            int paid = 0;
            for (int room = 0; room < plan.rooms; room++) {
                int lodger = s.sleeper[room];
                if (lodger != NONE && plan.hasFormula(RENTS)) {
                    int rent = reckoner.reckon(plan, RENTS, s, lodger, plan.first[lodger] == room ? 1 : 0);
                    paid += Math.max(0, Math.min(MOST_RENT, rent));
                } else if (lodger != NONE) {
                    paid++;
                }
            }
            s.purse = Math.min(MOST_PURSE, s.purse + paid);
            return paid;
        }

        private void endNight(State s) {
            for (int lodger = 0; lodger < plan.lodgers; lodger++) {
                if (s.isSleeper(lodger)) {
                    s.stay[lodger] = Math.min(LONGEST_STAY, s.stay[lodger] + 1);
                }
            }
            for (int lodger = 0; lodger < plan.lodgers && plan.hasFormula(LEAVES); lodger++) {
                if (s.isSleeper(lodger) && reckoner.reckon(plan, LEAVES, s, lodger, s.waiting) != 0) {
                    s.sendAway(lodger);
                }
            }
            s.night = Math.min(LAST_NIGHT, s.night + 1);
        }

        // Each SLEEPER has just one other ROOM: whoever must move, and where to, is one row from this ROOM on.
        // A row that goes round never ends, and would be longer than there are ROOMS.
        int movesToFree(State s, int room) {
            int next = room;
            for (int count = 0; count < MOST_ROOMS; count++) {
                if ((s.shut >> next & 1) == 1) {
                    return NONE;
                }
                int lodger = s.sleeper[next];
                if (lodger == NONE) {
                    return count;
                }
                next = plan.otherRoom(lodger, next);
            }
            return NONE;
        }
    }

    /** Which STEPS there can be by what was MET, and which NIGHT and ROOM tell most of them. */
    private static final class Steps {
        int rows = 0;
        private final int[] met = new int[3 * MOST_MET];
        // End k is what k + 1 STEPS lead to; the last end stands for all STEPS above, too.
        private final State[] ends = new State[MOST_STEPS];
        private final boolean[] fits = new boolean[MOST_STEPS];
        private int count = 0;
        private final int[] group = new int[MOST_LODGERS + 1];
        int tellingNight = NONE;
        int tellingRoom = NONE;
        int tellingLeft = NONE;

        Steps() {
            for (int i = 0; i < MOST_STEPS; i++) {
                ends[i] = new State();
            }
        }

        boolean meetRows(int[] tape, int length, Plan plan) {
            if (length < 3 || length > met.length || length > tape.length || length % 3 != 0) {
                return false;
            }
            for (int i = 0; i + 2 < length; i += 3) {
                boolean sleeperCanBe = tape[i + 2] == NOBODY || plan.isLodger(tape[i + 2]);
                if (tape[i] > MOST_NIGHTS_MET || !plan.isRoom(tape[i + 1]) || !sleeperCanBe) {
                    return false;
                }
            }
            System.arraycopy(tape, 0, met, 0, length);
            rows = length / 3;
            return true;
        }

        void sift(House house, State now, int lodger) {
            for (int i = 0; i < MOST_STEPS; i++) {
                fits[i] = true;
            }
            spread(house, now, lodger);
            int last = latestNightMet();
            for (int night = 0; night <= last; night++) {
                if (night > 0) {
                    passAll(house);
                }
                for (int row = 0; row < rows; row++) {
                    if (met[3 * row] == night) {
                        siftBy(row, now.night + night <= LAST_NIGHT);
                    }
                }
            }
        }

        private void spread(House house, State now, int lodger) {
            boolean stopped = false;
            count = 0;
            while (count < MOST_STEPS && !stopped) {
                ends[count].copy(now);
                count++;
                // Fewer PUT OUT than STEPS allow: more STEPS change nothing.
                stopped = house.arrive(ends[count - 1], lodger, count) < count;
            }
        }

        private int latestNightMet() {
            int last = NONE;
            for (int row = 0; row < rows; row++) {
                last = Math.max(last, met[3 * row]);
            }
            return last;
        }

        private void passAll(House house) {
            for (int i = 0; i < count; i++) {
                if (fits[i]) {
                    house.passNight(ends[i], false);
                }
            }
        }

        private void siftBy(int row, boolean canBe) {
            int room = met[3 * row + 1];
            int sleeper = met[3 * row + 2] == NOBODY ? NONE : met[3 * row + 2];
            for (int i = 0; i < count; i++) {
                fits[i] = fits[i] && canBe && ends[i].sleeper[room] == sleeper;
            }
        }

        private int weight(int end) {
            if (!fits[end]) {
                return 0;
            }
            return end == count - 1 ? MOST_STEPS - end : 1;
        }

        int countLeft() {
            int left = 0;
            for (int i = 0; i < count; i++) {
                left += weight(i);
            }
            return left;
        }

        int leftAt(int k) {
            int ahead = 0;
            for (int i = 0; i < count; i++) {
                int here = weight(i);
                if (k >= ahead && k < ahead + here) {
                    return i + 1 + k - ahead;
                }
                ahead += here;
            }
            return NONE;
        }

        /** Of the STEPS that sift left. */
        void findTelling(House house, State now, int lodger) {
            tellingNight = NONE;
            tellingRoom = NONE;
            tellingLeft = NONE;
            if (countLeft() == 0) {
                return;
            }
            spread(house, now, lodger);
            for (int night = 0; night <= MOST_NIGHTS_MET && now.night + night <= LAST_NIGHT; night++) {
                if (night > 0) {
                    passAll(house);
                }
                for (int room = 0; room < house.plan.rooms; room++) {
                    weigh(night, room);
                }
            }
        }

        private void weigh(int night, int room) {
            Arrays.fill(group, 0);
            int most = 0;
            for (int i = 0; i < count; i++) {
                // Nobody in it is a group, too: the first one.
                int who = ends[i].sleeper[room] + 1;
                group[who] += weight(i);
                most = Math.max(most, group[who]);
            }
            if (tellingLeft == NONE || most < tellingLeft) {
                tellingNight = night;
                tellingRoom = room;
                tellingLeft = most;
            }
        }
    }

    /**
     * Who can SLEEP TOGETHER. ROOMS that LODGERS join hang together; a group of ROOMS has a bed
     * for each of its LODGERS as long as these are not more than its ROOMS.
     */
    private static final class Beds {
        private static final int ONE_LEFT = 0;
        private static final int FULL_BY_ONE_ROOM = 1;
        private static final int FULL_BY_RING = 2;

        private final int[] parent = new int[MOST_ROOMS];
        private final int[] size = new int[MOST_ROOMS];
        private final int[] full = new int[MOST_ROOMS];
        private final int[] open = new int[MOST_LODGERS];
        // Which ROOMS the LODGERS below one, who can be in a CROWD, have.
        private final int[] reach = new int[MOST_LODGERS];
        private int candidates = 0;

        // From the highest LODGER on, so that of like ones the least bits are left over.
        int leftOver(Plan plan, int shut, int set) {
            for (int i = 0; i < MOST_ROOMS; i++) {
                parent[i] = i;
                size[i] = 1;
                full[i] = ONE_LEFT;
            }
            int left = 0;
            for (int lodger = plan.lodgers - 1; lodger >= 0; lodger--) {
                if ((set >> lodger & 1) == 1 && !findsBed(plan, shut, lodger)) {
                    left |= 1 << lodger;
                }
            }
            return left;
        }

        private boolean findsBed(Plan plan, int shut, int lodger) {
            boolean firstOpen = (shut >> plan.first[lodger] & 1) == 0;
            boolean otherOpen = (shut >> plan.other[lodger] & 1) == 0;
            int a = rootOf(firstOpen ? plan.first[lodger] : plan.other[lodger]);
            int b = rootOf(otherOpen ? plan.other[lodger] : plan.first[lodger]);
            if (!firstOpen && !otherOpen || full[a] != ONE_LEFT && full[b] != ONE_LEFT) {
                return false;
            }
            if (a == b) {
                full[a] = firstOpen && otherOpen ? FULL_BY_RING : FULL_BY_ONE_ROOM;
                return true;
            }
            parent[b] = a;
            size[a] += size[b];
            full[a] = Math.max(full[a], full[b]);
            return true;
        }

        private int rootOf(int room) {
            int root = room;
            for (int n = 0; n < MOST_ROOMS && parent[root] != root; n++) {
                root = parent[root];
            }
            return root;
        }

        // Behind leftOver, if it left nobody over: any ROOM of a group can be the empty one, a ring turns two ways.
        int countWays(int rooms) {
            int ways = 1;
            for (int room = 0; room < rooms; room++) {
                if (parent[room] == room) {
                    ways *= full[room] == ONE_LEFT ? size[room] : full[room];
                }
            }
            return ways;
        }

        int leastCrowd(Plan plan, int shut) {
            int all = (1 << plan.lodgers) - 1;
            int spare = Integer.bitCount(leftOver(plan, shut, all));
            if (spare == 0) {
                return NONE;
            }
            candidates = 0;
            int reached = 0;
            for (int lodger = 0; lodger < plan.lodgers; lodger++) {
                open[lodger] = plan.openRooms(lodger, shut);
                reach[lodger] = reached;
                // One without whom as many are left over is in no CROWD.
                if (Integer.bitCount(leftOver(plan, shut, all & ~(1 << lodger))) < spare) {
                    candidates |= 1 << lodger;
                    reached |= open[lodger];
                }
            }
            if (spare == 1) {
                return candidates;
            }
            int found = NONE;
            for (int count = 1; count <= plan.lodgers && found == NONE; count++) {
                found = searchCrowd(count, count, plan.lodgers, 0, 0, 0);
            }
            return found;
        }

        /**
         * The least bits of 'count' LODGERS with fewer ROOMS than they are: 'left' of them still to be
         * chosen, each below 'below'. In a CROWD each ROOM has two LODGERS or more, so one with a single
         * LODGER ('once') must still be reached.
         */
        private int searchCrowd(int count, int left, int below, int chosen, int once, int more) {
            if (left == 0) {
                return chosen;
            }
            for (int lodger = left - 1; lodger < below; lodger++) {
                int nextMore = more | once & open[lodger];
                int nextOnce = (once | open[lodger]) & ~nextMore;
                boolean canBe = (candidates >> lodger & 1) == 1
                    && Integer.bitCount(nextOnce | nextMore) < count
                    && (nextOnce & ~reach[lodger]) == 0
                    && Integer.bitCount(nextOnce) <= 2 * (left - 1);
                int found = canBe
                    ? searchCrowd(count, left - 1, lodger, chosen | 1 << lodger, nextOnce, nextMore) : NONE;
                if (found != NONE) {
                    return found;
                }
            }
            return NONE;
        }
    }

    /** Writes and reads IMAGES. */
    private static final class Image {
        int length = 0;
        final int[] bytes = new int[7 + MOST_ROOMS + 2 * MOST_LODGERS + MOST_PLACES];

        void write(State s, Plan plan) {
            length = 0;
            put(s.night >> 8);
            put(s.night & 255);
            put(s.purse >> 16);
            put(s.purse >> 8 & 255);
            put(s.purse & 255);
            for (int room = 0; room < plan.rooms; room++) {
                put(s.shut >> room & 1);
            }
            for (int lodger = 0; lodger < plan.lodgers; lodger++) {
                put(s.where[lodger]);
                put(s.stay[lodger]);
            }
            put(s.waiting);
            for (int i = 0; i < s.waiting; i++) {
                put(s.bench[i]);
            }
            put(checkOf(bytes, length));
        }

        private void put(int octet) {
            if (length < bytes.length) {
                bytes[length] = octet;
                length++;
            }
        }

        private static int checkOf(int[] octets, int count) {
            int check = 227;
            for (int i = 0; i < count && i < octets.length; i++) {
                check = (5 * check + octets[i]) % 251;
            }
            return check;
        }

        boolean read(int[] tape, int count, Plan plan, State into) {
            int lodgersAt = 5 + plan.rooms;
            int benchAt = lodgersAt + 2 * plan.lodgers;
            if (count < benchAt + 2 || count > tape.length) {
                return false;
            }
            if (count != benchAt + 2 + tape[benchAt] || tape[count - 1] != checkOf(tape, count - 1)) {
                return false;
            }
            into.emptyAll(0);
            into.night = tape[0] << 8 | tape[1];
            into.purse = tape[2] << 16 | tape[3] << 8 | tape[4];
            return into.night <= LAST_NIGHT && into.purse <= MOST_PURSE
                && readRooms(tape, plan, into)
                && readLodgers(tape, lodgersAt, plan, into)
                && readBench(tape, benchAt, plan, into);
        }

        private static boolean readRooms(int[] tape, Plan plan, State into) {
            for (int room = 0; room < plan.rooms; room++) {
                int flag = tape[5 + room];
                if (flag > 1) {
                    return false;
                }
                into.shut |= flag << room;
            }
            return true;
        }

        private static boolean readLodgers(int[] tape, int from, Plan plan, State into) {
            for (int lodger = 0; lodger < plan.lodgers; lodger++) {
                int where = tape[from + 2 * lodger];
                int stay = tape[from + 2 * lodger + 1];
                if (where == plan.first[lodger] || where == plan.other[lodger]) {
                    if (!into.isFree(where) || stay > LONGEST_STAY) {
                        return false;
                    }
                    into.putToBed(lodger, where);
                    into.stay[lodger] = stay;
                } else if (where != ON_BENCH && where != AWAY || stay != 0) {
                    return false;
                } else {
                    into.where[lodger] = where;
                }
            }
            return true;
        }

        private static boolean readBench(int[] tape, int from, Plan plan, State into) {
            int told = 0;
            for (int lodger = 0; lodger < plan.lodgers; lodger++) {
                told += into.where[lodger] == ON_BENCH ? 1 : 0;
            }
            int count = tape[from];
            if (count != told || count > plan.places) {
                return false;
            }
            for (int i = 0; i < count; i++) {
                int lodger = tape[from + 1 + i];
                if (!plan.isLodger(lodger) || into.where[lodger] != ON_BENCH || into.placeOf(lodger) != NONE) {
                    return false;
                }
                into.putOnBench(lodger, plan.places);
            }
            return true;
        }
    }
}
