/** A hill parish where it is noon wherever noon has been put, on a barrow that is pushed from house to house. */
public final class NoonOnABarrow {
    public static final int NONE = -1;

    private static final int MOST_HOUSES = 8;
    private static final int MOST_PUSHERS = 4;
    private static final int MOST_PAIRS = 8;
    private static final int MOST_TEXTS = 4;
    private static final int MOST_CLAUSES = 24;
    private static final int MOST_BYTES = 300;
    private static final int MOST_TOKENS = 301;
    private static final int MOST_OPEN = 8;
    private static final int MOST_STEPS = 30;
    private static final int MOST_DEBTS = 30;
    private static final int DEBT_FIELDS = 3;
    private static final int MOST_MINUTES = 60;
    private static final int MOST_YEARS = 30;
    private static final int MOST_WATCHERS = 3;
    private static final int LAST_MINUTE = 9999;
    private static final int MOST_LEFT = 9999;
    private static final int MOST_NUMBER = 9999;
    private static final int MOST_VALUE = 1000000;
    private static final int BEST_WHEELS = 99;
    private static final int NOON = 12;
    private static final int NO_WAY = 99;
    private static final int FIRST_X = 89;
    private static final int NOT_OF_A_HOUSE = -1000;

    // TOKENS: the words bear their place in WORDS as their number, the clauses' words first, the laws first of these.
    private static final String WORDS = "hard wears earns warm house lane pusher push tip mend minute to of by far if then else end not or and here hill hour pale purse there strength wheels left noon ";
    private static final int LONGEST_WORD = 8;
    private static final int HARD = 0;
    private static final int WEARS = 1;
    private static final int EARNS = 2;
    private static final int WARM = 3;
    private static final int LAWS = 4;
    private static final int HOUSE = 4;
    private static final int LANE = 5;
    private static final int PUSHER = 6;
    private static final int PUSH = 7;
    private static final int TIP = 8;
    private static final int MEND = 9;
    private static final int MINUTE = 10;
    private static final int TO = 11;
    private static final int OF = 12;
    private static final int BY = 13;
    private static final int FAR = 14;
    private static final int IF = 15;
    private static final int THEN = 16;
    private static final int ELSE = 17;
    private static final int END = 18;
    private static final int NOT = 19;
    private static final int OR = 20;
    private static final int AND = 21;
    private static final int HERE = 22;
    private static final int HILL = 23;
    private static final int HOUR = 24;
    private static final int PALE = 25;
    private static final int PURSE = 26;
    private static final int THERE = 27;
    private static final int STRENGTH = 28;
    private static final int WHEELS = 29;
    private static final int LEFT = 30;
    private static final int NOON_TRIED = 31;
    private static final int WORDS_IN_ALL = 32;
    // For each word the laws that may name it, as bits (1 hard, 2 wears, 4 earns, 8 warm); 0: it is no NAME.
    private static final int[] NAMED_IN = {
        0, 0, 0, 0, 0, 1, 0, 0, 0, 0, 15, 0, 0, 0, 0, 0,
        0, 0, 0, 0, 0, 0, 15, 15, 4, 4, 4, 1, 1, 2, 2, 8};

    // The signs bear their place in SIGNS behind FIRST_SIGN.
    private static final String SIGNS = "<>=#+-*/();";
    private static final int FIRST_SIGN = 32;
    private static final int LESS = 32;
    private static final int MORE = 33;
    private static final int SAME = 34;
    private static final int UNLIKE = 35;
    private static final int PLUS = 36;
    private static final int MINUS = 37;
    private static final int TIMES = 38;
    private static final int OVER = 39;
    private static final int OPEN = 40;
    private static final int CLOSE = 41;
    private static final int STOP = 42;
    private static final int AT_MOST = 43;
    private static final int AT_LEAST = 44;
    private static final int NUMBER = 45;
    private static final int ENDED = 46;
    private static final int STRANGE = 47;

    // Beside NUMBER, FAR, NOT and the signs these are asked in a law.
    private static final int NAME = 48;
    private static final int NEGATED = 49;
    private static final int UNLESS_SO_GO = 50;
    private static final int GO = 51;
    private static final int SKIPPED = 52;

    private final Land land;
    private final Day day;
    private final Steps steps;
    private final Text[] texts;
    private int told;
    private int ruling;
    private final Land imageLand;
    private final Day imageDay;
    private final Steps imageSteps;
    private int imageTold;
    private int imageRuling;
    private final Tape tape;
    private final Reader reader;
    private final Laws laws;
    private final Doings doings;
    private final Ways ways;
    private final Counsel counsel;
    private final Day guess;

    public NoonOnABarrow() {
        land = new Land();
        day = new Day();
        steps = new Steps();
        texts = new Text[MOST_TEXTS];
        for (int i = 0; i < texts.length; i++) {
            texts[i] = new Text();
        }
        told = 0;
        ruling = NONE;
        imageLand = new Land();
        imageDay = new Day();
        imageSteps = new Steps();
        imageTold = 0;
        imageRuling = NONE;
        tape = new Tape();
        reader = new Reader(tape);
        laws = new Laws(land);
        doings = new Doings(land, laws);
        ways = new Ways(land, laws);
        counsel = new Counsel(land, laws);
        guess = new Day();
    }

    public int house(int hill) {
        if (hill < 0 || hill > 9) {
            return NONE;
        }
        return land.addHouse(hill);
    }

    public boolean lane(int one, int other, int length) {
        if (one == other || !land.isHouse(one) || !land.isHouse(other) || length < 0 || length > 9) {
            return false;
        }
        land.setLane(one, other, length);
        return true;
    }

    public int pusher(int strength) {
        if (strength < 1 || strength > 9) {
            return NONE;
        }
        return land.addPusher(strength);
    }

    public int push(int house, int pusher) {
        if (!doings.canSetOff(day, house, pusher)) {
            return NONE;
        }
        steps.keep(day);
        doings.setOff(day, house, pusher);
        return day.left;
    }

    public boolean tip() {
        if (day.left <= 0) {
            return false;
        }
        steps.keep(day);
        doings.tipOver(day);
        return true;
    }

    public boolean mend() {
        if (day.wheels == BEST_WHEELS) {
            return false;
        }
        steps.keep(day);
        day.wheels = BEST_WHEELS;
        return true;
    }

    public int minute(int n) {
        if (n < 1 || n > MOST_MINUTES || n > LAST_MINUTE - day.minute) {
            return NONE;
        }
        int debts = 0;
        for (int i = 0; i < n; i++) {
            steps.keep(day);
            debts += doings.passMinute(day);
        }
        return debts;
    }

    public int years(int seed, int n) {
        if (seed < 0 || seed > 9999 || n < 1 || n > MOST_YEARS || land.houses == 0) {
            return NONE;
        }
        steps.keep(day);
        day.x = seed * 2 + FIRST_X;
        for (int i = 0; i < n; i++) {
            doings.doAsDrawn(day);
        }
        return day.minute;
    }

    public int feed(int a, int b, int c, int d, int e) {
        if (tape.length > MOST_BYTES - 20) {
            return NONE;
        }
        tape.addFour(a);
        tape.addFour(b);
        tape.addFour(c);
        tape.addFour(d);
        tape.addFour(e);
        return tape.length;
    }

    public int end(int n) {
        if (n < 0 || n > tape.length) {
            return NONE;
        }
        tape.length = n;
        return n;
    }

    public int text() {
        if (told < 0 || told >= texts.length) {
            return NONE;
        }
        Text next = texts[told];
        if (next == null) {
            return NONE;
        }
        reader.read(next);
        tape.length = 0;
        if (reader.fault != 0) {
            return NONE;
        }
        told++;
        return told - 1;
    }

    public int fault(int what) {
        switch (what) {
            case 0: return reader.fault;
            case 1: return reader.place;
            default: return NONE;
        }
    }

    public boolean by(int text) {
        if (text != NONE && textTold(text) == null) {
            return false;
        }
        letRule(text);
        return true;
    }

    public int played(int text) {
        Text script = textTold(text);
        if (script == null) {
            return -2;
        }
        for (int i = 0; i < script.clauses; i++) {
            if (!isDone(script, i)) {
                return i;
            }
        }
        return NONE;
    }

    public int undo() {
        return steps.takeBack(day);
    }

    public int of(int house, int what) {
        if (!land.isHouse(house)) {
            return NOT_OF_A_HOUSE;
        }
        switch (what) {
            case 0: return land.hillOf(house);
            case 1: return day.purseOf(house);
            case 2: return day.paleOf(house);
            case 3: return land.hourBy(day.house, house);
            case 4: return laws.earning(day, house);
            default: return NOT_OF_A_HOUSE;
        }
    }

    public int two(int one, int other, int what) {
        if (!land.isHouse(one) || !land.isHouse(other)) {
            return NONE;
        }
        switch (what) {
            case 0: return land.wayBetween(one, other);
            case 1: return land.laneBetween(one, other);
            case 2: return laws.warmth(day, one, other);
            default: return NONE;
        }
    }

    public int barrow(int what) {
        switch (what) {
            case 0: return day.house;
            case 1: return day.to;
            case 2: return day.left;
            case 3: return day.pusher;
            case 4: return day.wheels;
            case 5: return day.left > 0 ? laws.wearing(day) : 0;
            default: return -2;
        }
    }

    public int hard(int one, int other, int pusher) {
        if (!land.isPusher(pusher) || land.laneBetween(one, other) == 0) {
            return NONE;
        }
        return laws.hardness(day, one, other, pusher);
    }

    public int book(int i, int what) {
        return i == NONE ? day.debts : day.debtWritten(i, what);
    }

    public int foretold(int n, int house, int what) {
        if (n < 1 || n > MOST_MINUTES || !land.isHouse(house) || what < 0 || what > 2) {
            return NOT_OF_A_HOUSE;
        }
        guess.copyFrom(day);
        for (int i = 0; i < n && guess.minute < LAST_MINUTE; i++) {
            doings.passMinute(guess);
        }
        switch (what) {
            case 0: return guess.purseOf(house);
            case 1: return guess.paleOf(house);
            default: return land.hourBy(guess.house, house);
        }
    }

    public int arrives() {
        if (day.left <= 0) {
            return NONE;
        }
        guess.copyFrom(day);
        for (int i = 1; i <= MOST_MINUTES && guess.minute < LAST_MINUTE; i++) {
            doings.roll(guess);
            guess.minute++;
            if (guess.left == 0) {
                return i;
            }
        }
        return NONE;
    }

    public int want(int house, int hour) {
        return land.noteDown(land.wanted, house, hour, 23);
    }

    public int fitting() {
        return counsel.placesFitting();
    }

    public int route(int i) {
        int lanes = ways.seekRoute(day.house);
        if (lanes == NONE || i < NONE || i >= lanes) {
            return -2;
        }
        return i == NONE ? lanes : ways.routeHouse(i);
    }

    public int least(int house, int pusher, int i) {
        if (day.left > 0 || !land.isHouse(house) || !land.isPusher(pusher)) {
            return -3;
        }
        int pushing = ways.seekLeast(day, house, pusher);
        if (pushing == NONE || i < -2 || i >= ways.lanes) {
            return -3;
        }
        switch (i) {
            case -2: return pushing;
            case NONE: return ways.lanes;
            default: return ways.leastHouse(i);
        }
    }

    public int winner() {
        return counsel.voted();
    }

    public int agenda(int row, int n) {
        if (row < 0 || n < 1 || n > MOST_HOUSES) {
            return NONE;
        }
        return counsel.leftOfRow(row, n);
    }

    public boolean weight(int house, int weight) {
        if (!land.isHouse(house) || weight < 1 || weight > 9) {
            return false;
        }
        land.weight[house] = weight;
        return true;
    }

    public int fair(int n) {
        if (n < 1 || n > 9) {
            return NONE;
        }
        return counsel.fairTurn(n);
    }

    public int feel(int house, int warm) {
        return land.noteDown(land.felt, house, warm, 99);
    }

    public int lost() {
        return counsel.placesInFog(day);
    }

    public int yard() {
        return counsel.yardToFeel(day);
    }

    public int thieves() {
        return counsel.farthestFromNoon(day.house);
    }

    public int watch(int n, int d) {
        if (n < 1 || n > MOST_WATCHERS || n > land.houses || d < 0 || d > 9) {
            return NONE;
        }
        return counsel.bestWatch(n, d);
    }

    public int image() {
        imageLand.copyFrom(land);
        imageDay.copyFrom(day);
        imageSteps.copyFrom(steps);
        imageTold = told;
        imageRuling = ruling;
        return day.minute;
    }

    public int back() {
        land.copyFrom(imageLand);
        day.copyFrom(imageDay);
        steps.copyFrom(imageSteps);
        told = imageTold;
        letRule(imageRuling);
        return day.minute;
    }

    public int about(int what) {
        switch (what) {
            case 0: return land.houses;
            case 1: return land.pushers;
            case 2: return day.minute;
            case 3: return day.x;
            case 4: return told;
            case 5: return ruling;
            case 6: return steps.count;
            case 7: return land.wanted.count;
            case 8: return land.felt.count;
            case 9: return tape.length;
            default: return -2;
        }
    }

    private Text textTold(int text) {
        return text >= 0 && text < told && text < texts.length ? texts[text] : null;
    }

    private void letRule(int text) {
        ruling = text;
        laws.ruler = textTold(text);
    }

    private boolean isDone(Text script, int clause) {
        if (clause < 0 || clause >= MOST_CLAUSES) {
            return false;
        }
        int one = script.one[clause];
        int two = script.two[clause];
        switch (script.kind[clause]) {
            case HOUSE: return house(one) != NONE;
            case LANE: return lane(one, two, script.three[clause]);
            case PUSHER: return pusher(one) != NONE;
            case PUSH: return push(one, two) != NONE;
            case TIP: return tip();
            case MEND: return mend();
            case MINUTE:
                int passing = Math.min(one, LAST_MINUTE - day.minute);
                minute(passing);
                return passing == one;
            default: return true;
        }
    }

    private static int held(int value, int least, int most) {
        return Math.max(least, Math.min(most, value));
    }

    /** Up to eight HOUSES, each with a number: what is WANTED, or what was FELT. */
    private static final class Pairs {
        final int[] house = new int[MOST_PAIRS];
        final int[] number = new int[MOST_PAIRS];
        int count;

        void copyFrom(Pairs other) {
            System.arraycopy(other.house, 0, house, 0, MOST_PAIRS);
            System.arraycopy(other.number, 0, number, 0, MOST_PAIRS);
            count = other.count;
        }
    }

    /** What is told of the parish; no STEP changes it, and none that is taken back. */
    private static final class Land {
        int houses;
        int pushers;
        final int[] hill = new int[MOST_HOUSES];
        final int[] weight = new int[MOST_HOUSES];
        final int[] strength = new int[MOST_PUSHERS];
        final int[] lane = new int[MOST_HOUSES * MOST_HOUSES];
        final int[] way = new int[MOST_HOUSES * MOST_HOUSES];
        final Pairs wanted = new Pairs();
        final Pairs felt = new Pairs();

        void copyFrom(Land other) {
            houses = other.houses;
            pushers = other.pushers;
            System.arraycopy(other.hill, 0, hill, 0, MOST_HOUSES);
            System.arraycopy(other.weight, 0, weight, 0, MOST_HOUSES);
            System.arraycopy(other.strength, 0, strength, 0, MOST_PUSHERS);
            System.arraycopy(other.lane, 0, lane, 0, MOST_HOUSES * MOST_HOUSES);
            System.arraycopy(other.way, 0, way, 0, MOST_HOUSES * MOST_HOUSES);
            wanted.copyFrom(other.wanted);
            felt.copyFrom(other.felt);
        }

        boolean isHouse(int house) {
            return house >= 0 && house < houses && house < MOST_HOUSES;
        }

        boolean isPusher(int pusher) {
            return pusher >= 0 && pusher < pushers && pusher < MOST_PUSHERS;
        }

        int addHouse(int height) {
            if (houses < 0 || houses >= MOST_HOUSES) {
                return NONE;
            }
            hill[houses] = height;
            weight[houses] = 1;
            houses++;
            measure();
            return houses - 1;
        }

        int addPusher(int strong) {
            if (pushers < 0 || pushers >= MOST_PUSHERS) {
                return NONE;
            }
            strength[pushers] = strong;
            pushers++;
            return pushers - 1;
        }

        void setLane(int one, int other, int length) {
            if (isHouse(one) && isHouse(other)) {
                lane[one * MOST_HOUSES + other] = length;
                lane[other * MOST_HOUSES + one] = length;
                measure();
            }
        }

        // The ways are measured when the net changes, as laws may ask for them many times a MINUTE.
        private void measure() {
            for (int one = 0; one < MOST_HOUSES; one++) {
                for (int other = 0; other < MOST_HOUSES; other++) {
                    int at = one * MOST_HOUSES + other;
                    way[at] = one == other ? 0 : lane[at] > 0 ? lane[at] : NO_WAY;
                }
            }
            for (int over = 0; over < MOST_HOUSES; over++) {
                for (int one = 0; one < MOST_HOUSES; one++) {
                    shorten(one, over);
                }
            }
        }

        private void shorten(int one, int over) {
            if (one < 0 || one >= MOST_HOUSES || over < 0 || over >= MOST_HOUSES) {
                return;
            }
            int first = way[one * MOST_HOUSES + over];
            for (int other = 0; other < MOST_HOUSES; other++) {
                int at = one * MOST_HOUSES + other;
                way[at] = Math.min(way[at], first + way[over * MOST_HOUSES + other]);
            }
        }

        int hillOf(int house) {
            return isHouse(house) ? hill[house] : 0;
        }

        int strengthOf(int pusher) {
            return isPusher(pusher) ? strength[pusher] : 0;
        }

        int laneBetween(int one, int other) {
            return isHouse(one) && isHouse(other) ? lane[one * MOST_HOUSES + other] : 0;
        }

        int wayBetween(int one, int other) {
            if (one < 0 || one >= houses || one >= MOST_HOUSES || other < 0 || other >= houses || other >= MOST_HOUSES) {
                return NO_WAY;
            }
            return way[one * MOST_HOUSES + other];
        }

        int hourBy(int noon, int house) {
            int far = wayBetween(noon, house);
            return house <= noon ? Math.max(0, NOON - far) : Math.min(23, NOON + far);
        }

        int noteDown(Pairs pairs, int house, int number, int most) {
            if (house == NONE) {
                pairs.count = 0;
                return 0;
            }
            int next = pairs.count;
            if (!isHouse(house) || number < 0 || number > most || next < 0 || next >= MOST_PAIRS) {
                return -2;
            }
            pairs.house[next] = house;
            pairs.number[next] = number;
            pairs.count = next + 1;
            return next + 1;
        }
    }

    /** What STEPS change, and what is as ahead of them when they are taken back. */
    private static final class Day {
        int house;
        int to = NONE;
        int left;
        int pusher = NONE;
        int wheels = BEST_WHEELS;
        int minute;
        int x = FIRST_X;
        final int[] purse = new int[MOST_HOUSES];
        final int[] pale = new int[MOST_HOUSES];
        int debts;
        final int[] book = new int[MOST_DEBTS * DEBT_FIELDS];

        void copyFrom(Day other) {
            house = other.house;
            to = other.to;
            left = other.left;
            pusher = other.pusher;
            wheels = other.wheels;
            minute = other.minute;
            x = other.x;
            System.arraycopy(other.purse, 0, purse, 0, MOST_HOUSES);
            System.arraycopy(other.pale, 0, pale, 0, MOST_HOUSES);
            debts = other.debts;
            System.arraycopy(other.book, 0, book, 0, MOST_DEBTS * DEBT_FIELDS);
        }

        void lieAt(int there) {
            house = there;
            to = NONE;
            left = 0;
            pusher = NONE;
        }

        int purseOf(int there) {
            return there >= 0 && there < MOST_HOUSES ? purse[there] : 0;
        }

        int paleOf(int there) {
            return there >= 0 && there < MOST_HOUSES ? pale[there] : 0;
        }

        void writeDebt(int whose, int pence) {
            if (debts >= MOST_DEBTS) {
                System.arraycopy(book, DEBT_FIELDS, book, 0, (MOST_DEBTS - 1) * DEBT_FIELDS);
                debts = MOST_DEBTS - 1;
            }
            int at = debts * DEBT_FIELDS;
            if (at >= 0 && at + 2 < book.length) {
                book[at] = minute;
                book[at + 1] = whose;
                book[at + 2] = pence;
                debts++;
            }
        }

        int debtWritten(int i, int what) {
            if (i < 0 || i >= debts || i >= MOST_DEBTS || what < 0 || what >= DEBT_FIELDS) {
                return -2;
            }
            return book[i * DEBT_FIELDS + what];
        }

        /** X as it is tells the draw; it is changed behind it. */
        int draw(int m) {
            int drawn = m > 0 ? x % m : 0;
            x = (x * 283 + 193) % 30313;
            return drawn;
        }
    }

    /** The latest STEPS, each by the Day ahead of it, in a ring. */
    private static final class Steps {
        private final Day[] days = new Day[MOST_STEPS];
        private int first;
        int count;

        Steps() {
            for (int i = 0; i < MOST_STEPS; i++) {
                days[i] = new Day();
            }
        }

        private Day dayAt(int i) {
            int at = (first + i) % MOST_STEPS;
            return at >= 0 && at < MOST_STEPS ? days[at] : null;
        }

        void keep(Day day) {
            if (count < MOST_STEPS) {
                count++;
            } else {
                first = (first + 1) % MOST_STEPS;
            }
            Day kept = dayAt(count - 1);
            if (kept != null) {
                kept.copyFrom(day);
            }
        }

        int takeBack(Day day) {
            if (count <= 0) {
                return NONE;
            }
            count--;
            Day kept = dayAt(count);
            if (kept != null) {
                day.copyFrom(kept);
            }
            return count;
        }

        void copyFrom(Steps other) {
            first = 0;
            count = other.count;
            for (int i = 0; i < count && i < MOST_STEPS; i++) {
                Day mine = days[i];
                Day theirs = other.dayAt(i);
                if (mine != null && theirs != null) {
                    mine.copyFrom(theirs);
                }
            }
        }
    }

    /** The bytes fed, and the TOKENS they are cut into. */
    private static final class Tape {
        final int[] bytes = new int[MOST_BYTES];
        int length;
        private final int[] kinds = new int[MOST_TOKENS];
        private final int[] values = new int[MOST_TOKENS];
        private final int[] places = new int[MOST_TOKENS];
        private int tokens;

        void addFour(int four) {
            for (int shift = 24; shift >= 0; shift -= 8) {
                if (length >= 0 && length < MOST_BYTES) {
                    bytes[length] = (four >>> shift) & 255;
                    length++;
                }
            }
        }

        int kindAt(int token) {
            return token >= 0 && token < tokens && token < MOST_TOKENS ? kinds[token] : ENDED;
        }

        int valueAt(int token) {
            return token >= 0 && token < tokens && token < MOST_TOKENS ? values[token] : 0;
        }

        int placeAt(int token) {
            return token >= 0 && token < tokens && token < MOST_TOKENS ? places[token] : length;
        }

        void cut() {
            tokens = 0;
            int at = 0;
            for (int turn = 0; turn < MOST_BYTES && at < length; turn++) {
                int sign = byteAt(at);
                if (sign == 32 || sign == 10) {
                    at++;
                } else if (isLetter(sign)) {
                    at = cutWord(at);
                } else if (isDigit(sign)) {
                    at = cutNumber(at);
                } else {
                    at = cutSign(at);
                }
            }
            note(ENDED, 0, length);
        }

        private int byteAt(int at) {
            return at >= 0 && at < length && at < MOST_BYTES ? bytes[at] : 0;
        }

        private static boolean isLetter(int sign) {
            return sign >= 'a' && sign <= 'z' || sign >= 'A' && sign <= 'Z';
        }

        private static boolean isDigit(int sign) {
            return sign >= '0' && sign <= '9';
        }

        private void note(int kind, int value, int place) {
            if (tokens >= 0 && tokens < MOST_TOKENS) {
                kinds[tokens] = kind;
                values[tokens] = value;
                places[tokens] = place;
                tokens++;
            }
        }

        private int cutWord(int from) {
            int to = from;
            while (to < length && isLetter(byteAt(to))) {
                to++;
            }
            note(wordOf(from, to), 0, from);
            return to;
        }

        private int wordOf(int from, int to) {
            if (to - from > LONGEST_WORD) {
                return STRANGE;
            }
            int word = 0;
            int alike = 0;
            for (int i = 0; i < WORDS.length(); i++) {
                char sign = WORDS.charAt(i);
                if (sign == ' ') {
                    if (alike == to - from) {
                        return word;
                    }
                    word++;
                    alike = 0;
                } else if (alike >= 0 && from + alike < to && byteAt(from + alike) == sign) {
                    alike++;
                } else {
                    alike = NONE;
                }
            }
            return STRANGE;
        }

        private int cutNumber(int from) {
            int to = from;
            int value = 0;
            while (to < length && isDigit(byteAt(to))) {
                value = Math.min(MOST_NUMBER + 1, value * 10 + byteAt(to) - '0');
                to++;
            }
            note(NUMBER, value, from);
            return to;
        }

        private int cutSign(int from) {
            int sign = byteAt(from);
            if ((sign == '<' || sign == '>') && byteAt(from + 1) == '=') {
                note(sign == '<' ? AT_MOST : AT_LEAST, 0, from);
                return from + 2;
            }
            int known = SIGNS.indexOf((char) sign);
            note(known < 0 ? STRANGE : FIRST_SIGN + known, 0, from);
            return from + 1;
        }
    }

    /** A TEXT that was read: its CLAUSES, and what its laws ask, the parts of each step ahead of it. */
    private static final class Text {
        final int[] kind = new int[MOST_CLAUSES];
        final int[] one = new int[MOST_CLAUSES];
        final int[] two = new int[MOST_CLAUSES];
        final int[] three = new int[MOST_CLAUSES];
        int clauses;
        private final int[] lawFrom = new int[LAWS];
        private final int[] lawTo = new int[LAWS];
        private final int[] steps = new int[MOST_BYTES];
        private final int[] givens = new int[MOST_BYTES];
        int length;

        void empty() {
            clauses = 0;
            length = 0;
            for (int law = 0; law < LAWS; law++) {
                lawFrom[law] = 0;
                lawTo[law] = 0;
            }
        }

        // A law that was read asks for one thing at least, so one that asks for nothing is not there.
        boolean hasLaw(int law) {
            return law >= 0 && law < LAWS && lawTo[law] > lawFrom[law];
        }

        int lawStart(int law) {
            return law >= 0 && law < LAWS ? lawFrom[law] : 0;
        }

        int lawEnd(int law) {
            return law >= 0 && law < LAWS ? lawTo[law] : 0;
        }

        int stepAt(int at) {
            return at >= 0 && at < MOST_BYTES ? steps[at] : 0;
        }

        int givenAt(int at) {
            return at >= 0 && at < MOST_BYTES ? givens[at] : 0;
        }

        void addClause(int word, int first, int second, int third) {
            if (clauses >= 0 && clauses < MOST_CLAUSES) {
                kind[clauses] = word;
                one[clauses] = first;
                two[clauses] = second;
                three[clauses] = third;
                clauses++;
            }
        }

        void setLaw(int law, int from) {
            if (law >= 0 && law < LAWS) {
                lawFrom[law] = from;
                lawTo[law] = length;
            }
        }

        int ask(int step, int given) {
            if (length >= 0 && length < MOST_BYTES) {
                steps[length] = step;
                givens[length] = given;
                length++;
            }
            return length - 1;
        }

        void goOnHere(int at) {
            if (at >= 0 && at < MOST_BYTES) {
                givens[at] = length;
            }
        }
    }

    /** Reads the tape as a TEXT; what follows a FAULT is not looked at. */
    private static final class Reader {
        private final Tape tape;
        private Text text;
        private int at;
        private int law;
        int fault = NONE;
        int place = NONE;

        Reader(Tape tape) {
            this.tape = tape;
            text = new Text();
        }

        void read(Text into) {
            text = into;
            at = 0;
            fault = 0;
            place = NONE;
            text.empty();
            tape.cut();
            for (int clause = 0; clause <= MOST_CLAUSES && fault == 0 && tape.kindAt(at) != ENDED; clause++) {
                readClause();
            }
        }

        private void refuse(int why) {
            if (fault == 0) {
                fault = why;
                place = tape.placeAt(at);
            }
        }

        private boolean isNext(int kind) {
            return fault == 0 && tape.kindAt(at) == kind;
        }

        private void expect(int kind) {
            if (isNext(kind)) {
                at++;
            } else {
                refuse(1);
            }
        }

        private int expectNumber(int least, int most) {
            int value = tape.valueAt(at);
            if (!isNext(NUMBER)) {
                refuse(1);
            } else if (value < least || value > most) {
                refuse(2);
            } else {
                at++;
            }
            return value;
        }

        private void readClause() {
            int word = tape.kindAt(at);
            if (word > MINUTE) {
                refuse(1);
            } else if (text.hasLaw(word)) {
                refuse(4);
            } else if (text.clauses >= MOST_CLAUSES) {
                refuse(6);
            } else {
                at++;
                if (word < LAWS) {
                    int from = text.length;
                    law = word;
                    readSum(0);
                    text.setLaw(word, from);
                    text.addClause(word, 0, 0, 0);
                } else {
                    readDeed(word);
                }
                expect(STOP);
            }
        }

        private void readDeed(int word) {
            int first = 0;
            int second = 0;
            int third = 0;
            switch (word) {
                case HOUSE:
                    first = expectNumber(0, 9);
                    break;
                case LANE:
                    first = expectNumber(0, MOST_HOUSES - 1);
                    expect(TO);
                    second = expectNumber(0, MOST_HOUSES - 1);
                    expect(OF);
                    third = expectNumber(0, 9);
                    break;
                case PUSHER:
                    first = expectNumber(1, 9);
                    break;
                case PUSH:
                    first = expectNumber(0, MOST_HOUSES - 1);
                    expect(BY);
                    second = expectNumber(0, MOST_PUSHERS - 1);
                    break;
                case MINUTE:
                    first = expectNumber(1, MOST_MINUTES);
                    break;
                default:
                    break;
            }
            text.addClause(word, first, second, third);
        }

        // From here on open is how many of (, not, far, if and - are open around the TOKEN.
        private void readSum(int open) {
            readProduct(open);
            for (int n = 0; n < MOST_BYTES && (isNext(PLUS) || isNext(MINUS)); n++) {
                int sign = tape.kindAt(at);
                at++;
                readProduct(open);
                text.ask(sign, 0);
            }
        }

        private void readProduct(int open) {
            readOne(open);
            for (int n = 0; n < MOST_BYTES && (isNext(TIMES) || isNext(OVER)); n++) {
                int sign = tape.kindAt(at);
                at++;
                readOne(open);
                text.ask(sign, 0);
            }
        }

        private void readOne(int open) {
            if (fault != 0) {
                return;
            }
            switch (tape.kindAt(at)) {
                case NUMBER:
                    text.ask(NUMBER, expectNumber(0, MOST_NUMBER));
                    break;
                case OPEN:
                    if (opens(open)) {
                        readSum(open + 1);
                        expect(CLOSE);
                    }
                    break;
                case MINUS:
                    if (opens(open)) {
                        readOne(open + 1);
                        text.ask(NEGATED, 0);
                    }
                    break;
                case FAR:
                    if (opens(open)) {
                        readFar(open + 1);
                    }
                    break;
                case IF:
                    if (opens(open)) {
                        readIf(open + 1);
                    }
                    break;
                default:
                    readName();
                    break;
            }
        }

        private boolean opens(int open) {
            if (open >= MOST_OPEN) {
                refuse(3);
                return false;
            }
            at++;
            return true;
        }

        private void readName() {
            int word = tape.kindAt(at);
            int laws = word >= 0 && word < WORDS_IN_ALL ? NAMED_IN[word] : 0;
            if (laws == 0) {
                refuse(1);
            } else if ((laws >> law & 1) == 0) {
                refuse(5);
            } else {
                text.ask(NAME, word);
                at++;
            }
        }

        private void readFar(int open) {
            readOne(open);
            expect(TO);
            readOne(open);
            text.ask(FAR, 0);
        }

        private void readIf(int open) {
            readEither(open);
            expect(THEN);
            int unless = text.ask(UNLESS_SO_GO, 0);
            readSum(open);
            expect(ELSE);
            int over = text.ask(GO, 0);
            text.goOnHere(unless);
            readSum(open);
            expect(END);
            text.goOnHere(over);
        }

        private void readEither(int open) {
            readBoth(open);
            for (int n = 0; n < MOST_BYTES && isNext(OR); n++) {
                at++;
                readBoth(open);
                text.ask(OR, 0);
            }
        }

        private void readBoth(int open) {
            readAsk(open);
            for (int n = 0; n < MOST_BYTES && isNext(AND); n++) {
                at++;
                readAsk(open);
                text.ask(AND, 0);
            }
        }

        private void readAsk(int open) {
            if (isNext(NOT)) {
                if (opens(open)) {
                    readAsk(open + 1);
                    text.ask(NOT, 0);
                }
                return;
            }
            readSum(open);
            int sign = tape.kindAt(at);
            if (!compares(sign)) {
                refuse(1);
            } else if (fault == 0) {
                at++;
                readSum(open);
                text.ask(sign, 0);
            }
        }

        private static boolean compares(int sign) {
            return sign >= LESS && sign <= UNLIKE || sign == AT_MOST || sign == AT_LEAST;
        }
    }

    /** What THE TEXT says, or what holds without it. */
    private static final class Laws {
        private final Land land;
        private final int[] named = new int[WORDS_IN_ALL];
        private final int[] stack = new int[64];
        private int top;
        Text ruler;

        Laws(Land land) {
            this.land = land;
        }

        private boolean rules(int law) {
            return ruler != null && ruler.hasLaw(law);
        }

        private void nameHere(Day day, int here) {
            named[MINUTE] = day.minute;
            named[HERE] = here;
            named[HILL] = land.isHouse(here) ? land.hill[here] : 0;
        }

        int hardness(Day day, int from, int to, int pusher) {
            int lane = land.laneBetween(from, to);
            if (!rules(HARD)) {
                return Math.max(1, lane * 3 + land.hillOf(to) - land.hillOf(from));
            }
            nameHere(day, from);
            named[THERE] = to;
            named[LANE] = lane;
            named[STRENGTH] = land.strengthOf(pusher);
            return held(said(HARD), 1, 999);
        }

        int wearing(Day day) {
            if (!rules(WEARS)) {
                return 1;
            }
            nameHere(day, day.house);
            named[WHEELS] = day.wheels;
            named[LEFT] = day.left;
            return held(said(WEARS), 0, 99);
        }

        int earning(Day day, int house) {
            int hour = land.hourBy(day.house, house);
            if (!rules(EARNS)) {
                return NOON - Math.abs(hour - NOON);
            }
            nameHere(day, house);
            named[HOUR] = hour;
            named[PALE] = day.paleOf(house);
            named[PURSE] = day.purseOf(house);
            return held(said(EARNS), -99, 99);
        }

        int warmth(Day day, int here, int noon) {
            if (!rules(WARM)) {
                return Math.max(0, 30 - 5 * land.wayBetween(here, noon));
            }
            nameHere(day, here);
            named[NOON_TRIED] = noon;
            return held(said(WARM), 0, 99);
        }

        // Each step takes what it joins from the top of the stack, and lays down its answer there.
        private int said(int law) {
            if (ruler == null) {
                return 0;
            }
            top = 0;
            int end = ruler.lawEnd(law);
            int goOn = 0;
            for (int at = ruler.lawStart(law); at < end; at++) {
                int given = ruler.givenAt(at);
                int step = at < goOn ? SKIPPED : ruler.stepAt(at);
                switch (step) {
                    case SKIPPED:
                        break;
                    case NUMBER:
                        lay(given);
                        break;
                    case NAME:
                        lay(given >= 0 && given < WORDS_IN_ALL ? named[given] : 0);
                        break;
                    case GO:
                        goOn = given;
                        break;
                    case UNLESS_SO_GO:
                        goOn = lift() == 0 ? given : goOn;
                        break;
                    case NEGATED:
                        lay(-lift());
                        break;
                    case NOT:
                        lay(1 - lift());
                        break;
                    default:
                        int second = lift();
                        int first = lift();
                        lay(step == FAR ? land.wayBetween(first, second) : joined(step, first, second));
                        break;
                }
            }
            return lift();
        }

        private void lay(int value) {
            if (top >= 0 && top < stack.length) {
                stack[top] = value;
                top++;
            }
        }

        private int lift() {
            if (top <= 0 || top > stack.length) {
                return 0;
            }
            top--;
            return stack[top];
        }

        private static int joined(int step, int first, int second) {
            long whole;
            switch (step) {
                case PLUS: whole = first + second; break;
                case MINUS: whole = first - second; break;
                case TIMES: whole = (long) first * (long) second; break;
                case OVER: whole = second == 0 ? 0 : first / second; break;
                case OR: whole = first | second; break;
                case AND: whole = first & second; break;
                case LESS: whole = first < second ? 1 : 0; break;
                case MORE: whole = first > second ? 1 : 0; break;
                case SAME: whole = first == second ? 1 : 0; break;
                case UNLIKE: whole = first != second ? 1 : 0; break;
                case AT_MOST: whole = first <= second ? 1 : 0; break;
                default: whole = first >= second ? 1 : 0; break;
            }
            return whole > MOST_VALUE ? MOST_VALUE : whole < -MOST_VALUE ? -MOST_VALUE : (int) whole;
        }
    }

    /** What is done to a Day: to the one that is, or to one that is foretold. */
    private static final class Doings {
        private final Land land;
        private final Laws laws;

        Doings(Land land, Laws laws) {
            this.land = land;
            this.laws = laws;
        }

        boolean canSetOff(Day day, int house, int pusher) {
            return day.left == 0 && land.isPusher(pusher) && land.laneBetween(day.house, house) > 0;
        }

        void setOff(Day day, int house, int pusher) {
            day.left = laws.hardness(day, day.house, house, pusher);
            day.to = house;
            day.pusher = pusher;
        }

        void tipOver(Day day) {
            day.lieAt(day.house);
            day.wheels = Math.max(0, day.wheels - 5);
        }

        int passMinute(Day day) {
            roll(day);
            int debts = 0;
            for (int house = 0; house < land.houses; house++) {
                if (fallsInDebt(day, house)) {
                    debts++;
                }
            }
            day.minute++;
            return debts;
        }

        void roll(Day day) {
            if (day.left <= 0) {
                return;
            }
            day.left = Math.max(0, day.left - land.strengthOf(day.pusher));
            day.wheels = Math.max(0, day.wheels - laws.wearing(day));
            if (day.left == 0) {
                day.lieAt(day.to);
            } else if (day.wheels == 0) {
                day.left = Math.min(MOST_LEFT, day.left + 5);
            }
        }

        private boolean fallsInDebt(Day day, int house) {
            if (house < 0 || house >= MOST_HOUSES) {
                return false;
            }
            int ahead = day.purse[house];
            int purse = held(ahead + laws.earning(day, house), -999, 9999);
            boolean debt = purse < 0 && ahead >= 0;
            if (debt) {
                day.writeDebt(house, -purse);
            }
            boolean atNoon = land.hourBy(day.house, house) == NOON;
            day.purse[house] = purse;
            day.pale[house] = atNoon ? 0 : Math.min(99, day.pale[house] + 1);
            return debt;
        }

        void doAsDrawn(Day day) {
            switch (day.draw(6)) {
                case 0:
                case 1:
                    setOffAsDrawn(day);
                    break;
                case 2:
                    if (day.left > 0) {
                        tipOver(day);
                    }
                    break;
                case 3:
                    day.wheels = BEST_WHEELS;
                    break;
                default:
                    if (day.minute < LAST_MINUTE) {
                        passMinute(day);
                    }
                    break;
            }
        }

        private void setOffAsDrawn(Day day) {
            if (land.pushers == 0) {
                return;
            }
            int house = day.draw(land.houses);
            int pusher = day.draw(land.pushers);
            if (canSetOff(day, house, pusher)) {
                setOff(day, house, pusher);
            }
        }
    }

    /** Routes that give what is WANTED, and the least pushing. */
    private static final class Ways {
        // A place on a route: a HOUSE, and how many of WANTED are done there.
        private static final int PLACES = MOST_HOUSES * (MOST_PAIRS + 1);
        private static final int NOT_COME_TO = -2;
        private static final int TOO_MUCH = 1000000;

        private final Land land;
        private final Laws laws;
        private final int[] queue = new int[PLACES];
        private final int[] earlier = new int[PLACES];
        private int queued;
        private int last;
        private final int[] cost = new int[MOST_HOUSES * MOST_HOUSES];
        private final int[] rest = new int[MOST_HOUSES];
        private final int[] leastWay = new int[MOST_HOUSES];
        int lanes;

        Ways(Land land, Laws laws) {
            this.land = land;
            this.laws = laws;
        }

        /** How many LANES the route has, or NONE. Places are come to in the order of their lowest routes. */
        int seekRoute(int start) {
            lanes = 0;
            queued = 0;
            last = NONE;
            for (int i = 0; i < PLACES; i++) {
                earlier[i] = NOT_COME_TO;
            }
            if (!land.isHouse(start)) {
                return NONE;
            }
            comeTo(start, 0, NONE);
            for (int i = 0; i < queued && i < PLACES; i++) {
                int place = queue[i];
                if (place / MOST_HOUSES == land.wanted.count) {
                    last = place;
                    lanes = lanesBehind(place);
                    return lanes;
                }
                goOnFrom(place);
            }
            return NONE;
        }

        private void goOnFrom(int place) {
            int house = place % MOST_HOUSES;
            for (int next = 0; next < land.houses; next++) {
                if (land.laneBetween(house, next) > 0) {
                    comeTo(next, place / MOST_HOUSES, place);
                }
            }
        }

        private void comeTo(int house, int done, int from) {
            Pairs wanted = land.wanted;
            int all = done;
            while (all >= 0 && all < wanted.count && all < MOST_PAIRS
                    && land.hourBy(house, wanted.house[all]) == wanted.number[all]) {
                all++;
            }
            int place = all * MOST_HOUSES + house;
            if (place >= 0 && place < PLACES && earlier[place] == NOT_COME_TO && queued >= 0 && queued < PLACES) {
                earlier[place] = from;
                queue[queued] = place;
                queued++;
            }
        }

        private int lanesBehind(int place) {
            int count = 0;
            int at = placeAhead(place);
            while (at >= 0 && count < PLACES) {
                count++;
                at = placeAhead(at);
            }
            return count;
        }

        private int placeAhead(int place) {
            return place >= 0 && place < PLACES ? earlier[place] : NONE;
        }

        int routeHouse(int i) {
            int place = last;
            for (int n = lanes - 1; n > i; n--) {
                place = placeAhead(place);
            }
            return place < 0 ? NONE : place % MOST_HOUSES;
        }

        /** How much pushing it takes, or NONE; lanes and leastHouse tell the way then. */
        int seekLeast(Day day, int house, int pusher) {
            lanes = 0;
            askCosts(day, pusher);
            for (int i = 0; i < MOST_HOUSES; i++) {
                rest[i] = i == house ? 0 : TOO_MUCH;
            }
            for (int turn = 0; turn < MOST_HOUSES; turn++) {
                for (int from = 0; from < MOST_HOUSES; from++) {
                    lowerRest(from);
                }
            }
            int start = day.house;
            if (start < 0 || start >= MOST_HOUSES || rest[start] >= TOO_MUCH) {
                return NONE;
            }
            int at = start;
            while (at != house && at != NONE && lanes < MOST_HOUSES) {
                at = lowestNext(at);
                leastWay[lanes] = at;
                lanes++;
            }
            return rest[start];
        }

        private void askCosts(Day day, int pusher) {
            for (int from = 0; from < MOST_HOUSES; from++) {
                for (int to = 0; to < MOST_HOUSES; to++) {
                    boolean leads = land.laneBetween(from, to) > 0;
                    cost[from * MOST_HOUSES + to] = leads ? laws.hardness(day, from, to, pusher) : TOO_MUCH;
                }
            }
        }

        private void lowerRest(int from) {
            if (from < 0 || from >= MOST_HOUSES) {
                return;
            }
            for (int to = 0; to < MOST_HOUSES; to++) {
                rest[from] = Math.min(rest[from], cost[from * MOST_HOUSES + to] + rest[to]);
            }
        }

        private int lowestNext(int from) {
            if (from < 0 || from >= MOST_HOUSES) {
                return NONE;
            }
            for (int to = 0; to < MOST_HOUSES; to++) {
                if (cost[from * MOST_HOUSES + to] + rest[to] == rest[from]) {
                    return to;
                }
            }
            return NONE;
        }

        int leastHouse(int i) {
            return i >= 0 && i < MOST_HOUSES ? leastWay[i] : NONE;
        }
    }

    /** What is asked of all HOUSES together. */
    private static final class Counsel {
        private final Land land;
        private final Laws laws;
        private final int[] row = new int[MOST_HOUSES];

        Counsel(Land land, Laws laws) {
            this.land = land;
            this.laws = laws;
        }

        int placesFitting() {
            int places = 0;
            for (int noon = 0; noon < land.houses; noon++) {
                if (fits(noon)) {
                    places |= 1 << noon;
                }
            }
            return places;
        }

        private boolean fits(int noon) {
            Pairs wanted = land.wanted;
            for (int i = 0; i < wanted.count && i < MOST_PAIRS; i++) {
                if (land.hourBy(noon, wanted.house[i]) != wanted.number[i]) {
                    return false;
                }
            }
            return true;
        }

        int voted() {
            for (int house = 0; house < land.houses; house++) {
                if (beatsAll(house)) {
                    return house;
                }
            }
            return NONE;
        }

        private boolean beatsAll(int house) {
            for (int other = 0; other < land.houses; other++) {
                if (other != house && !beats(house, other)) {
                    return false;
                }
            }
            return true;
        }

        private boolean beats(int house, int other) {
            int more = 0;
            for (int voter = 0; voter < land.houses; voter++) {
                int toHouse = land.wayBetween(voter, house);
                int toOther = land.wayBetween(voter, other);
                boolean ahead = toHouse < toOther || toHouse == toOther && house < other;
                more += ahead ? 1 : -1;
            }
            return more > 0;
        }

        int leftOfRow(int digits, int n) {
            if (n > MOST_HOUSES || !isRow(digits, n)) {
                return NONE;
            }
            int stays = row[0];
            for (int i = 1; i < n; i++) {
                if (beats(row[i], stays)) {
                    stays = row[i];
                }
            }
            return stays;
        }

        private boolean isRow(int digits, int n) {
            int rest = digits;
            int seen = 0;
            for (int i = Math.min(n, MOST_HOUSES) - 1; i >= 0; i--) {
                int house = rest % 10;
                rest = rest / 10;
                if (!land.isHouse(house) || (seen >> house & 1) != 0) {
                    return false;
                }
                seen |= 1 << house;
                row[i] = house;
            }
            return rest == 0;
        }

        int fairTurn(int n) {
            for (int i = 0; i < MOST_HOUSES; i++) {
                row[i] = 0;
            }
            int whose = NONE;
            for (int turn = 0; turn < n; turn++) {
                whose = leastServed();
                if (whose >= 0 && whose < MOST_HOUSES) {
                    row[whose]++;
                }
            }
            return whose;
        }

        private int leastServed() {
            int whose = NONE;
            for (int house = 0; house < land.houses && house < MOST_HOUSES; house++) {
                if (whose == NONE || isServedLess(house, whose)) {
                    whose = house;
                }
            }
            return whose;
        }

        private boolean isServedLess(int house, int than) {
            if (!land.isHouse(house) || !land.isHouse(than)) {
                return false;
            }
            int mine = row[house] * land.weight[than];
            int theirs = row[than] * land.weight[house];
            return mine < theirs || mine == theirs && land.weight[house] > land.weight[than];
        }

        int placesInFog(Day day) {
            int places = 0;
            for (int noon = 0; noon < land.houses; noon++) {
                if (mayBeAt(day, noon)) {
                    places |= 1 << noon;
                }
            }
            return places;
        }

        private boolean mayBeAt(Day day, int noon) {
            Pairs felt = land.felt;
            for (int i = 0; i < felt.count && i < MOST_PAIRS; i++) {
                if (laws.warmth(day, felt.house[i], noon) != felt.number[i]) {
                    return false;
                }
            }
            return true;
        }

        int yardToFeel(Day day) {
            int places = placesInFog(day);
            int yard = NONE;
            int most = 0;
            for (int house = 0; house < land.houses; house++) {
                int unlike = answersAt(day, house, places);
                if (unlike > most) {
                    most = unlike;
                    yard = house;
                }
            }
            return yard;
        }

        private int answersAt(Day day, int house, int places) {
            int unlike = 0;
            for (int noon = 0; noon < land.houses; noon++) {
                if ((places >> noon & 1) != 0) {
                    unlike = withAnswer(laws.warmth(day, house, noon), unlike);
                }
            }
            return unlike;
        }

        private int withAnswer(int warm, int unlike) {
            for (int i = 0; i < unlike && i < MOST_HOUSES; i++) {
                if (row[i] == warm) {
                    return unlike;
                }
            }
            if (unlike < 0 || unlike >= MOST_HOUSES) {
                return unlike;
            }
            row[unlike] = warm;
            return unlike + 1;
        }

        int farthestFromNoon(int noon) {
            int farthest = NONE;
            int most = NONE;
            for (int house = 0; house < land.houses; house++) {
                int off = Math.abs(land.hourBy(noon, house) - NOON);
                if (off > most) {
                    most = off;
                    farthest = house;
                }
            }
            return farthest;
        }

        int bestWatch(int n, int d) {
            for (int house = 0; house < MOST_HOUSES; house++) {
                row[house] = nearBits(house, d);
            }
            int best = NONE;
            int most = NONE;
            for (int set = 0; set < 1 << MOST_HOUSES; set++) {
                if (Integer.bitCount(set) == n && set >> land.houses == 0) {
                    int watched = Integer.bitCount(watchedBy(set));
                    if (watched > most) {
                        most = watched;
                        best = set;
                    }
                }
            }
            return best;
        }

        private int nearBits(int house, int d) {
            int near = 0;
            for (int other = 0; other < land.houses; other++) {
                if (land.wayBetween(house, other) <= d) {
                    near |= 1 << other;
                }
            }
            return near;
        }

        private int watchedBy(int set) {
            int watched = 0;
            for (int house = 0; house < MOST_HOUSES; house++) {
                if ((set >> house & 1) != 0) {
                    watched |= row[house];
                }
            }
            return watched;
        }
    }
}
