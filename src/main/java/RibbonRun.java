import java.util.NoSuchElementException;

/**
 * Growers, the ribbons that go round among them, and the years in which they do.
 *
 * Every row is made in the constructor and used again: no call makes an object.
 */
public final class RibbonRun {
    public static final int NONE = -1;

    /** What most calls answer where there is none by the rules, though the call itself was fine. */
    private static final int NOT_SO = -2;
    /** What a law answers that isn't told or has an ERROR; no VALUE can be this one. */
    private static final long ERROR = Long.MIN_VALUE;
    private static final long MOST_VALUE = 1_000_000_000_000L;

    private static final int MOST_GROWERS = 6;
    private static final int MOST_RIBBONS = 2;
    private static final int MOST_KNOTS = 64;
    private static final int MOST_OPEN = 8;
    private static final int MOST_NUMBER = 9999;
    private static final int MOST_WORTH = 999;
    private static final int MOST_OFTEN = 999;
    private static final int MOST_YEARS = 99;
    private static final int LAST_YEAR = 9000;
    private static final int MOST_RAISE = 99;
    private static final int MOST_WAY = 999;
    private static final int MOST_DOUBT = 9;
    private static final int MOST_GROWS = 9;
    private static final int PAIRS = MOST_GROWERS * MOST_GROWERS;

    private static final int JUDGE = 0;
    private static final int GROW = 1;
    private static final int GIVE = 2;
    private static final int LAWS = 3;

    private static final int WORTH = 0;
    private static final int OWN = 1;
    private static final int DOUBT = 2;
    private static final int FAR = 3;
    private static final int HAD = 4;
    private static final int SINCE = 5;
    private static final int YEAR = 6;
    private static final int NAMES = 7;

    private static final int OR = 0;
    private static final int AND = 1;
    private static final int NOT = 2;
    private static final int LESS = 3;
    private static final int LESS_EQUAL = 4;
    private static final int EQUAL = 5;
    private static final int UNEQUAL = 6;
    private static final int MORE_EQUAL = 7;
    private static final int MORE = 8;
    private static final int PLUS = 9;
    private static final int MINUS = 10;
    private static final int TIMES = 11;
    private static final int BY = 12;
    private static final int OPEN = 13;
    private static final int CLOSE = 14;
    private static final int LINE_END = 15;

    private final Tape tape = new Tape();
    private final Reader reader = new Reader(tape);
    private Garden garden = new Garden();
    private final Course real = new Course(garden);
    private final Course trial = new Course(garden);
    private final Plot image = new Plot();
    private boolean hasImage = false;
    private final Deeds deeds = new Deeds();
    private final Told told = new Told();
    private final Ring circle = new Ring();
    private final Picks picks = new Picks();
    private final Rows rows = new Rows();

    public RibbonRun() {
    }

    public int feed(int a, int b, int c, int d, int e) {
        if (!tape.hasRoom()) {
            return NONE;
        }
        tape.add(a);
        tape.add(b);
        tape.add(c);
        tape.add(d);
        tape.add(e);
        return tape.fed;
    }

    public int text(int n) {
        if (n < 0 || n > tape.fed) {
            return NOT_SO;
        }
        int lines = reader.read(n);
        if (lines >= 0) {
            beginAnew();
        }
        return lines;
    }

    public int fault(int what) {
        if (what == 0) {
            return reader.fault;
        }
        return what == 1 ? reader.place : NONE;
    }

    public int named(int letters) {
        return garden.numberOf(letters);
    }

    public int grower(int grower, int what) throws IndexOutOfBoundsException, NoSuchElementException {
        if (!isGrower(grower)) {
            throw new IndexOutOfBoundsException();
        }
        switch (what) {
            case 0:
                return real.plot.worth[grower];
            case 1:
                return garden.grows[grower];
            case 2:
                return garden.doubts[grower];
            case 3:
                return garden.places[grower];
            case 4:
                return real.plot.had[grower];
            case 5:
                return real.plot.seen[grower];
            case 6:
                return ribbonsOf(grower);
            default:
                throw new NoSuchElementException();
        }
    }

    public int ribbon(int ribbon, int what) {
        if (!isRibbon(ribbon)) {
            return NONE;
        }
        switch (what) {
            case 0:
                return real.plot.holder[ribbon];
            case 1:
                return real.plot.since[ribbon];
            case 2:
                return real.plot.handed[ribbon];
            default:
                return NONE;
        }
    }

    public int judged(int one, int other) {
        return areTwo(one, other) ? real.esteem(one, other) : NONE;
    }

    public int best(int grower) {
        return isGrower(grower) ? real.bestFor(grower) : NONE;
    }

    public long law(int what, int one, int other) {
        if (what == JUDGE) {
            return areTwo(one, other) ? real.judgeLaw(one, other) : ERROR;
        }
        if (!isGrower(one)) {
            return ERROR;
        }
        return what == GROW || what == GIVE ? real.ownLaw(what, one, 0) : ERROR;
    }

    public boolean show(int one, int other, boolean is) {
        if (!areTwo(one, other) || real.plot.isSeen(one, other) == is) {
            return false;
        }
        deeds.noteShow(one, real.plot.seen[one]);
        real.plot.setSeen(one, other, is);
        return true;
    }

    public int raise(int grower, int by) {
        if (!isGrower(grower) || by == 0 || !isWithin(by, -MOST_RAISE, MOST_RAISE)) {
            return NONE;
        }
        deeds.noteRaise(grower, real.plot.worth[grower]);
        real.plot.addWorth(grower, by);
        return real.plot.worth[grower];
    }

    public boolean hand(int ribbon, int grower) {
        if (!isRibbon(ribbon) || !isGrower(grower) || real.plot.holder[ribbon] == grower) {
            return false;
        }
        deeds.noteHand(ribbon, grower, real.plot);
        real.plot.pass(ribbon, grower);
        return true;
    }

    public int go(int n) {
        if (!isWithin(n, 0, MOST_YEARS) || real.plot.year + n > LAST_YEAR) {
            return NONE;
        }
        real.years(n);
        if (n > 0) {
            deeds.forget();
        }
        return real.plot.year;
    }

    public int ahead(int n, int what, int i) {
        boolean isThere = what == 0 || what == 1 ? isRibbon(i) : isGrower(i);
        if (!isThere || !isWithin(n, 0, MOST_YEARS) || !isWithin(what, 0, 3)) {
            return NONE;
        }
        trial.begin(garden, real.plot);
        trial.years(n);
        switch (what) {
            case 0:
                return trial.plot.holder[i];
            case 1:
                return trial.plot.handed[i] - real.plot.handed[i];
            case 2:
                return trial.plot.worth[i];
            default:
                return trial.plot.had[i];
        }
    }

    public int ring(int ribbon, int what) {
        if (!isRibbon(ribbon) || !isWithin(what, 0, 2)) {
            return NONE;
        }
        circle.prepare(real, ribbon);
        circle.follow();
        if (what == 0) {
            return circle.isRound ? 1 : 0;
        }
        return what == 1 ? circle.steps : circle.members;
    }

    public int free(int ribbon, int what) {
        if (!isRibbon(ribbon) || !isWithin(what, 0, 2)) {
            return NONE;
        }
        circle.prepare(real, ribbon);
        picks.seekFree(circle);
        return picks.told(what);
    }

    public int lead(int ribbon, int grower, int n, int what) {
        if (!isRibbon(ribbon) || !isGrower(grower) || !isWithin(n, 1, 20) || !isWithin(what, 0, 2)) {
            return NONE;
        }
        picks.aim(ribbon, grower, n);
        picks.seekLead(trial, garden, real.plot);
        if (!picks.areFound()) {
            picks.seekTwoLeads(trial, garden, real.plot);
        }
        return picks.told(what);
    }

    public int walk(int ribbon, int what) {
        if (!isRibbon(ribbon) || !isWithin(what, 0, 5)) {
            return NONE;
        }
        rows.seekWalk(garden, real.plot.holder[ribbon]);
        return what == 5 ? rows.least : rows.at(what);
    }

    public int meet() {
        if (garden.ribbons < MOST_RIBBONS) {
            return NONE;
        }
        trial.begin(garden, real.plot);
        for (int year = 0; year <= MOST_YEARS; year++) {
            if (trial.plot.holder[0] == trial.plot.holder[1]) {
                return year;
            }
            trial.year();
        }
        return NOT_SO;
    }

    public int reach(int grower) {
        if (!isGrower(grower)) {
            return NONE;
        }
        int reached = 1 << grower;
        for (int round = 0; round < garden.growers; round++) {
            for (int i = 0; i < garden.growers; i++) {
                reached |= has(reached, i) ? real.plot.seen[i] : 0;
            }
        }
        return reached;
    }

    public int deserves() {
        int most = NONE;
        for (int i = 0; i < garden.growers; i++) {
            if (most < 0 || real.plot.worth[i] > real.plot.worth[most]) {
                most = i;
            }
        }
        return most;
    }

    public int order(int what) {
        if (!isWithin(what, 0, 6)) {
            return NONE;
        }
        told.mark();
        rows.seekOrder(garden.growers, told, real.plot);
        return what == 6 ? rows.least : rows.at(what);
    }

    public int rests(int one, int other) {
        if (!areTwo(one, other)) {
            return NONE;
        }
        int many = 0;
        for (int way = 0; way < 4; way++) {
            many += isRest(one, other, way) ? 1 : 0;
        }
        return many;
    }

    public int rest(int one, int other, int k) {
        if (!areTwo(one, other) || k < 0) {
            return NONE;
        }
        int many = 0;
        for (int way = 0; way < 4; way++) {
            if (isRest(one, other, way)) {
                if (many == k) {
                    return 10 * (way >> 1) + (way & 1);
                }
                many++;
            }
        }
        return NOT_SO;
    }

    public int visit(int grower, int way, int what) {
        if (!isGrower(grower) || !isWithin(way, 0, MOST_WAY) || !isWithin(what, 0, 1)) {
            return NONE;
        }
        int chosen = 0;
        int most = 0;
        for (int bits = 0; bits < 1 << garden.growers; bits++) {
            int sum = real.plot.worthOf(bits);
            if (sum > most && !has(bits, grower) && garden.wayFrom(grower, bits) <= way) {
                chosen = bits;
                most = sum;
            }
        }
        return what == 0 ? chosen : most;
    }

    public int hosts(int ribbon, int n) {
        if (!isRibbon(ribbon) || !isWithin(n, 0, MOST_YEARS)) {
            return NONE;
        }
        trial.begin(garden, real.plot);
        int bits = 1 << trial.plot.holder[ribbon];
        for (int year = 0; year < n; year++) {
            trial.year();
            bits |= 1 << trial.plot.holder[ribbon];
        }
        return bits;
    }

    public int rank(int grower) {
        if (!isGrower(grower)) {
            return NONE;
        }
        int many = 0;
        int worth = real.plot.worth[grower];
        for (int i = 0; i < garden.growers; i++) {
            int its = real.plot.worth[i];
            many += its > worth || its == worth && i < grower ? 1 : 0;
        }
        return many;
    }

    public int keepers() {
        int bits = 0;
        for (int i = 0; i < garden.growers; i++) {
            bits |= real.bestFor(i) >= 0 && real.gives(i, 0) ? 0 : 1 << i;
        }
        return bits;
    }

    public int comesTo(int ribbon, int grower) {
        if (!isRibbon(ribbon) || !isGrower(grower)) {
            return NONE;
        }
        trial.begin(garden, real.plot);
        for (int year = 0; year <= MOST_YEARS; year++) {
            if (trial.plot.holder[ribbon] == grower) {
                return year;
            }
            trial.year();
        }
        return NOT_SO;
    }

    public int popular() {
        int most = 0;
        int first = NOT_SO;
        for (int i = 0; i < garden.growers; i++) {
            int many = 0;
            for (int j = 0; j < garden.growers; j++) {
                many += real.plot.isSeen(j, i) ? 1 : 0;
            }
            if (many > most) {
                most = many;
                first = i;
            }
        }
        return first;
    }

    public int mutual() {
        int many = 0;
        for (int i = 0; i < garden.growers; i++) {
            for (int j = i + 1; j < garden.growers; j++) {
                many += real.plot.isSeen(i, j) && real.plot.isSeen(j, i) ? 1 : 0;
            }
        }
        return many;
    }

    public int lonely() {
        int bits = 0;
        for (int i = 0; i < garden.growers; i++) {
            bits |= real.plot.seen[i] == 0 ? 1 << i : 0;
        }
        return bits;
    }

    public int note(int one, int other) {
        return areTwo(one, other) ? told.addHanding(one, other) : NONE;
    }

    public int see(int years, int ribbon, int grower, boolean is) {
        if (!isWithin(years, 1, Told.MOST_BEHIND) || !isRibbon(ribbon) || !isGrower(grower)) {
            return NONE;
        }
        return told.addSight(years, ribbon, grower, is);
    }

    public int strike(int told) {
        return isWithin(told, 0, this.told.count - 1) ? this.told.addStrike(told) : NONE;
    }

    public boolean known(int n) {
        if (!isWithin(n, NONE, told.count)) {
            return false;
        }
        told.by = n;
        return true;
    }

    public int doubts(int grower) {
        if (!isGrower(grower)) {
            return NONE;
        }
        told.mark();
        int bits = 0;
        for (int doubt = 0; doubt <= MOST_DOUBT; doubt++) {
            trial.begin(garden, garden.first);
            trial.doubts[grower] = doubt;
            bits |= areSightsSo() ? 1 << doubt : 0;
        }
        return bits;
    }

    public int chance(int seed, int n, int ribbon, int grower) {
        if (seed < 0 || !isWithin(n, 1, MOST_YEARS) || !isRibbon(ribbon) || !isGrower(grower)) {
            return NONE;
        }
        int many = 0;
        long number = seed;
        for (int time = 0; time < 10; time++) {
            trial.begin(garden, real.plot);
            trial.drawBlight();
            trial.plot.number = number;
            trial.years(n);
            number = trial.plot.number;
            many += trial.plot.holder[ribbon] == grower ? 1 : 0;
        }
        return many;
    }

    public int tried(int what, int i, int n) {
        boolean isThere = what == 2 ? isGrower(i) : i == 0;
        if (!isThere || !isWithin(what, 0, 4) || !isWithin(n, 0, MOST_YEARS) || garden.ribbons == 0) {
            return NONE;
        }
        trial.begin(garden, real.plot);
        trial.otherwise(what, i);
        trial.years(n);
        return trial.plot.holder[0];
    }

    public int undo() {
        return deeds.isEmpty() ? NONE : deeds.takeBack(real.plot);
    }

    public int keep() {
        image.become(real.plot);
        hasImage = true;
        return image.year;
    }

    public int back() {
        if (!hasImage) {
            return NONE;
        }
        real.plot.become(image);
        deeds.forget();
        return real.plot.year;
    }

    public int count(int what) {
        switch (what) {
            case 0:
                return garden.growers;
            case 1:
                return real.plot.countSeen();
            case 2:
                return garden.ribbons;
            case 3:
                return garden.knots;
            case 4:
                return real.plot.year;
            case 5:
                return real.plot.handed[0] + real.plot.handed[1];
            case 6:
                return real.plot.worthOf((1 << garden.growers) - 1);
            case 7:
                return told.count;
            case 8:
                return told.end();
            case 9:
                return deeds.many();
            default:
                return NONE;
        }
    }

    private boolean isGrower(int grower) {
        return grower >= 0 && grower < garden.growers;
    }

    private boolean isRibbon(int ribbon) {
        return ribbon >= 0 && ribbon < garden.ribbons;
    }

    private boolean areTwo(int one, int other) {
        return isGrower(one) && isGrower(other) && one != other;
    }

    private static boolean isWithin(int value, int least, int most) {
        return value >= least && value <= most;
    }

    private static boolean has(int bits, int bit) {
        return (bits >> bit & 1) != 0;
    }

    private void beginAnew() {
        garden = reader.exchange(garden);
        real.begin(garden, garden.first);
        real.drawBlight();
        told.forget();
        deeds.forget();
        hasImage = false;
    }

    private int ribbonsOf(int grower) {
        int bits = 0;
        for (int i = 0; i < garden.ribbons; i++) {
            bits |= real.plot.holder[i] == grower ? 1 << i : 0;
        }
        return bits;
    }

    /** A way is 2 if the first one HANDS and 1 if the second one does, so ways come in the order of RESTS. */
    private boolean isRest(int one, int other, int way) {
        int mine = way >> 1;
        int its = way & 1;
        return share(one, other, mine, its) >= share(one, other, 1 - mine, its)
            && share(other, one, its, mine) >= share(other, one, 1 - its, mine);
    }

    /** What one has of the GAME if it does this and the other one does that (1: HANDS). */
    private int share(int one, int other, int mine, int its) {
        int worth = real.plot.worth[one];
        if (mine == 1) {
            return its == 1 ? real.plot.worth[other] / 2 : 0;
        }
        return its == 1 ? worth - 5 * garden.doubts[other] : worth / 4;
    }

    /** The trial stands at the TEXT's beginning and what is KNOWN is marked. */
    private boolean areSightsSo() {
        int last = told.lastYear();
        for (int year = 1; year <= last; year++) {
            trial.year();
            if (!told.isSo(year, trial.plot)) {
                return false;
            }
        }
        return true;
    }

    /** The bytes that were fed, cut into TOKENS one at a time: a fault behind the first one is never looked for. */
    private static final class Tape {
        private static final int ROOM = 700;
        private static final int AT_ONCE = 20;

        static final int END = 0;
        static final int NUMBER = 1;
        static final int NAME = 2;
        static final int WORD = 3;
        static final int SIGN = 4;
        static final int NO_TOKEN = 5;

        static final int GROWER_WORD = 0;
        static final int SEES_WORD = 1;
        static final int RIBBON_WORD = 2;
        static final int BLIGHT_WORD = 3;
        static final int SEED_WORD = 4;
        static final int LAW_WORD = 5;
        static final int FIRST_LAW = 6;
        static final int OR_WORD = 9;
        static final int AND_WORD = 10;
        static final int NOT_WORD = 11;
        static final int FIRST_NAME = 12;

        private static final int WORDS = 19;
        private static final String LANGUAGE =
            "grower sees ribbon blight seed law judge grow give or and not worth own doubt far had since year ";
        private static final int LETTERS = 6;
        /** Numbers are counted up to here, which is beyond each bound, so that no row of digits overflows. */
        private static final int BEYOND = 1_000_000;

        private final int[] words = new int[WORDS];
        private final byte[] bytes = new byte[ROOM];
        private int length = 0;
        private int next = 0;
        int fed = 0;
        int kind = END;
        int value = 0;
        int start = 0;

        Tape() {
            int word = 0;
            int letters = 0;
            int packed = 0;
            for (int i = 0; i < LANGUAGE.length() && word < WORDS; i++) {
                char sign = LANGUAGE.charAt(i);
                if (sign == ' ') {
                    words[word] = packed << 5 * (LETTERS - letters);
                    word++;
                    letters = 0;
                    packed = 0;
                } else {
                    packed = packed << 5 | sign - 'a' + 1;
                    letters++;
                }
            }
        }

        boolean hasRoom() {
            return fed + AT_ONCE <= ROOM;
        }

        void add(int four) {
            for (int shift = 24; shift >= 0 && fed < ROOM; shift -= 8) {
                bytes[fed] = (byte) (four >> shift);
                fed++;
            }
        }

        /** The first n bytes are read from now on; nothing is fed any more. */
        void begin(int n) {
            length = n < ROOM ? n : ROOM;
            next = 0;
            fed = 0;
            advance();
        }

        void advance() {
            while (next < length && (bytes[next] == 10 || bytes[next] == 32)) {
                next++;
            }
            start = next;
            value = 0;
            if (next >= length) {
                kind = END;
            } else if (isLetter(next)) {
                readWord();
            } else if (isDigit(next)) {
                readNumber();
            } else {
                readSign(bytes[next]);
            }
        }

        boolean isWord(int word) {
            return kind == WORD && value == word;
        }

        boolean isSign(int sign) {
            return kind == SIGN && value == sign;
        }

        private boolean isLetter(int place) {
            return place < length && bytes[place] >= 'a' && bytes[place] <= 'z';
        }

        private boolean isDigit(int place) {
            return place < length && bytes[place] >= '0' && bytes[place] <= '9';
        }

        private void readWord() {
            int packed = 0;
            while (next < length && isLetter(next)) {
                packed = packed << 5 | bytes[next] - 'a' + 1;
                next++;
            }
            int letters = next - start;
            if (letters > LETTERS) {
                kind = NO_TOKEN;
                return;
            }
            kind = NAME;
            value = packed << 5 * (LETTERS - letters);
            for (int i = 0; i < WORDS; i++) {
                if (kind == NAME && words[i] == value) {
                    kind = WORD;
                    value = i;
                }
            }
        }

        private void readNumber() {
            kind = NUMBER;
            while (next < length && isDigit(next)) {
                int more = value * 10 + bytes[next] - '0';
                value = more < BEYOND ? more : BEYOND;
                next++;
            }
        }

        private void readSign(int sign) {
            next++;
            value = signOf(sign);
            kind = value == NONE ? NO_TOKEN : SIGN;
            int behind = next < length ? bytes[next] : NONE;
            if (value == LESS && behind == '=') {
                value = LESS_EQUAL;
                next++;
            } else if (value == LESS && behind == '>') {
                value = UNEQUAL;
                next++;
            } else if (value == MORE && behind == '=') {
                value = MORE_EQUAL;
                next++;
            }
        }

        private static int signOf(int sign) {
            switch (sign) {
                case '<':
                    return LESS;
                case '>':
                    return MORE;
                case '=':
                    return EQUAL;
                case '+':
                    return PLUS;
                case '-':
                    return MINUS;
                case '*':
                    return TIMES;
                case '/':
                    return BY;
                case '(':
                    return OPEN;
                case ')':
                    return CLOSE;
                case ';':
                    return LINE_END;
                default:
                    return NONE;
            }
        }
    }

    /** Reads a TEXT into a garden, up to its first FAULT. */
    private static final class Reader {
        private static final int WRONG = 1;
        private static final int TOO_MUCH = 2;
        private static final int AGAIN = 3;
        private static final int UNTOLD = 4;
        private static final int ITSELF = 5;

        /** What may come next in an E: 'not' too, only a value, or what stands behind a value. */
        private static final int ANY_VALUE = 0;
        private static final int VALUE = 1;
        private static final int BEHIND_VALUE = 2;
        private static final int COMPLETE = 3;
        private static final int FAILED = 4;

        private final Tape token;
        private final int[] waiting = new int[MOST_KNOTS + MOST_OPEN];
        private int waits = 0;
        private int open = 0;
        private Garden into = new Garden();
        private boolean isBlightTold = false;
        private boolean isSeedTold = false;
        private int taken = 0;
        int fault = 0;
        int place = NONE;

        Reader(Tape tape) {
            token = tape;
        }

        /** What was read, for a garden that the next TEXT may be read into. */
        Garden exchange(Garden old) {
            Garden read = into;
            into = old;
            return read;
        }

        /** How many LINES; NONE with a FAULT. */
        int read(int n) {
            into.clear();
            isBlightTold = false;
            isSeedTold = false;
            fault = 0;
            place = NONE;
            token.begin(n);
            int lines = 0;
            while (lines <= n && token.kind != Tape.END) {
                if (!readLine() || !takeSign(LINE_END)) {
                    return NONE;
                }
                lines++;
            }
            into.first.number = into.seed;
            return lines;
        }

        private boolean readLine() {
            if (token.kind != Tape.WORD) {
                return fail(WRONG);
            }
            switch (token.value) {
                case Tape.GROWER_WORD:
                    return readGrower();
                case Tape.SEES_WORD:
                    return readSees();
                case Tape.RIBBON_WORD:
                    return readRibbon();
                case Tape.BLIGHT_WORD:
                    return readBlight();
                case Tape.SEED_WORD:
                    return readSeed();
                case Tape.LAW_WORD:
                    return readLaw();
                default:
                    return fail(WRONG);
            }
        }

        private boolean readGrower() {
            int grower = into.growers;
            if (grower >= MOST_GROWERS) {
                return fail(TOO_MUCH);
            }
            token.advance();
            if (token.kind != Tape.NAME) {
                return fail(WRONG);
            }
            if (into.numberOf(token.value) != NONE) {
                return fail(AGAIN);
            }
            into.names[grower] = token.value;
            token.advance();
            if (!takeNumber(99)) {
                return false;
            }
            into.first.worth[grower] = taken;
            boolean isLess = token.isSign(MINUS);
            if (isLess) {
                token.advance();
            }
            if (!takeNumber(MOST_GROWS)) {
                return false;
            }
            into.grows[grower] = isLess ? -taken : taken;
            if (!takeNumber(MOST_DOUBT)) {
                return false;
            }
            into.doubts[grower] = taken;
            if (!takeNumber(99)) {
                return false;
            }
            into.places[grower] = taken;
            into.growers++;
            return true;
        }

        private boolean readSees() {
            token.advance();
            int one = toldGrower();
            if (one < 0) {
                return false;
            }
            token.advance();
            int other = toldGrower();
            if (other < 0) {
                return false;
            }
            if (into.first.isSeen(one, other)) {
                return fail(AGAIN);
            }
            if (one == other) {
                return fail(ITSELF);
            }
            into.first.setSeen(one, other, true);
            token.advance();
            return true;
        }

        private boolean readRibbon() {
            if (into.ribbons >= MOST_RIBBONS) {
                return fail(TOO_MUCH);
            }
            token.advance();
            int grower = toldGrower();
            if (grower < 0) {
                return false;
            }
            into.first.holder[into.ribbons] = grower;
            into.first.had[grower]++;
            into.ribbons++;
            token.advance();
            return true;
        }

        private boolean readBlight() {
            if (isBlightTold) {
                return fail(AGAIN);
            }
            isBlightTold = true;
            token.advance();
            if (!takeNumber(100)) {
                return false;
            }
            into.blight = taken;
            return true;
        }

        private boolean readSeed() {
            if (isSeedTold) {
                return fail(AGAIN);
            }
            isSeedTold = true;
            token.advance();
            if (!takeNumber(99999)) {
                return false;
            }
            into.seed = taken;
            return true;
        }

        private boolean readLaw() {
            token.advance();
            int which = token.kind == Tape.WORD ? token.value - Tape.FIRST_LAW : NONE;
            if (!isWithin(which, 0, LAWS - 1)) {
                return fail(WRONG);
            }
            Law law = into.laws[which];
            if (law.isTold()) {
                return fail(AGAIN);
            }
            token.advance();
            return readExpression(law);
        }

        /** Signs wait until one that binds less comes, so that the law has each KNOT behind its parts. */
        private boolean readExpression(Law law) {
            waits = 0;
            open = 0;
            int state = ANY_VALUE;
            // Each round takes a TOKEN, so a tape's length is more than enough.
            for (int i = 0; i <= Tape.ROOM; i++) {
                state = state == BEHIND_VALUE ? readBehind(law) : readValue(law, state == ANY_VALUE);
                if (state == COMPLETE || state == FAILED) {
                    return state == COMPLETE;
                }
                token.advance();
            }
            return fail(WRONG);
        }

        private int readValue(Law law, boolean canNegate) {
            if (token.kind == Tape.NUMBER) {
                if (!countKnot() || token.value > MOST_NUMBER) {
                    return failed(TOO_MUCH);
                }
                law.add(token.value);
                return BEHIND_VALUE;
            }
            if (token.kind == Tape.WORD && token.value >= Tape.FIRST_NAME) {
                if (!countKnot()) {
                    return failed(TOO_MUCH);
                }
                law.add(Law.FIRST_NAME + token.value - Tape.FIRST_NAME);
                return BEHIND_VALUE;
            }
            if (canNegate && token.isWord(Tape.NOT_WORD)) {
                if (!countKnot()) {
                    return failed(TOO_MUCH);
                }
                defer(NOT);
                return ANY_VALUE;
            }
            if (token.isSign(OPEN)) {
                if (open >= MOST_OPEN) {
                    return failed(TOO_MUCH);
                }
                open++;
                defer(OPEN);
                return ANY_VALUE;
            }
            return failed(WRONG);
        }

        private int readBehind(Law law) {
            if (token.isSign(LINE_END) && open == 0) {
                release(law, 0);
                return COMPLETE;
            }
            if (token.isSign(CLOSE) && open > 0) {
                release(law, 0);
                waits--;
                open--;
                return BEHIND_VALUE;
            }
            int sign = joiningSign();
            if (sign == NONE) {
                return failed(WRONG);
            }
            int binding = Law.binding(sign);
            boolean compares = binding == Law.COMPARING;
            release(law, compares ? binding + 1 : binding);
            if (compares && waits > 0 && Law.binding(waiting[waits - 1]) == binding) {
                return failed(WRONG);
            }
            if (!countKnot()) {
                return failed(TOO_MUCH);
            }
            defer(sign);
            return sign == OR || sign == AND ? ANY_VALUE : VALUE;
        }

        private int joiningSign() {
            if (token.isWord(Tape.OR_WORD)) {
                return OR;
            }
            if (token.isWord(Tape.AND_WORD)) {
                return AND;
            }
            return token.kind == Tape.SIGN && isWithin(token.value, LESS, BY) ? token.value : NONE;
        }

        private void defer(int sign) {
            if (waits < waiting.length) {
                waiting[waits] = sign;
                waits++;
            }
        }

        /** The signs that wait and bind so much at least go into the law; an open '(' holds back those ahead of it. */
        private void release(Law law, int least) {
            while (waits > 0 && waiting[waits - 1] != OPEN && Law.binding(waiting[waits - 1]) >= least) {
                law.add(Law.FIRST_SIGN + waiting[waits - 1]);
                waits--;
            }
        }

        private boolean countKnot() {
            into.knots++;
            return into.knots <= MOST_KNOTS;
        }

        /** NONE with a FAULT. */
        private int toldGrower() {
            int grower = token.kind == Tape.NAME ? into.numberOf(token.value) : NONE;
            if (grower == NONE) {
                fail(token.kind == Tape.NAME ? UNTOLD : WRONG);
            }
            return grower;
        }

        private boolean takeNumber(int most) {
            if (token.kind != Tape.NUMBER) {
                return fail(WRONG);
            }
            if (token.value > most) {
                return fail(TOO_MUCH);
            }
            taken = token.value;
            token.advance();
            return true;
        }

        private boolean takeSign(int sign) {
            if (!token.isSign(sign)) {
                return fail(WRONG);
            }
            token.advance();
            return true;
        }

        private boolean fail(int what) {
            fault = what;
            place = token.start;
            return false;
        }

        private int failed(int what) {
            fail(what);
            return FAILED;
        }
    }

    /** An E, its KNOTS in the order in which they are worked out. */
    private static final class Law {
        static final int FIRST_NAME = 10_000;
        static final int FIRST_SIGN = 20_000;
        static final int COMPARING = 3;

        private final int[] knots = new int[MOST_KNOTS];
        private int length = 0;

        void clear() {
            length = 0;
        }

        boolean isTold() {
            return length > 0;
        }

        void add(int knot) {
            if (length < MOST_KNOTS) {
                knots[length] = knot;
                length++;
            }
        }

        /** How much a sign binds. */
        static int binding(int sign) {
            if (sign <= NOT) {
                return sign;
            }
            if (sign <= MORE) {
                return COMPARING;
            }
            return sign <= MINUS ? COMPARING + 1 : COMPARING + 2;
        }

        /** The VALUE with these NAMES; what is worked out on the way stands in the row of values. */
        long worked(long[] names, long[] values) {
            int top = 0;
            for (int i = 0; i < length; i++) {
                int knot = knots[i];
                if (knot < FIRST_SIGN) {
                    if (top >= values.length) {
                        return ERROR;
                    }
                    int name = knot - FIRST_NAME;
                    values[top] = name >= 0 && name < names.length ? names[name] : knot;
                    top++;
                } else if (knot == FIRST_SIGN + NOT) {
                    if (top < 1) {
                        return ERROR;
                    }
                    values[top - 1] = values[top - 1] == 0 ? 1 : 0;
                } else {
                    if (top < 2) {
                        return ERROR;
                    }
                    top--;
                    long value = joined(knot - FIRST_SIGN, values[top - 1], values[top]);
                    if (value > MOST_VALUE || value < -MOST_VALUE) {
                        return ERROR;
                    }
                    values[top - 1] = value;
                }
            }
            return top == 1 ? values[0] : ERROR;
        }

        private static long joined(int sign, long a, long b) {
            switch (sign) {
                case OR:
                    return a != 0 || b != 0 ? 1 : 0;
                case AND:
                    return a != 0 && b != 0 ? 1 : 0;
                case LESS:
                    return a < b ? 1 : 0;
                case LESS_EQUAL:
                    return a <= b ? 1 : 0;
                case EQUAL:
                    return a == b ? 1 : 0;
                case UNEQUAL:
                    return a != b ? 1 : 0;
                case MORE_EQUAL:
                    return a >= b ? 1 : 0;
                case MORE:
                    return a > b ? 1 : 0;
                case PLUS:
                    return a + b;
                case MINUS:
                    return a - b;
                case TIMES:
                    // A product may be too much for a long, so its size is foretold by a division.
                    long sizeA = a < 0 ? -a : a;
                    long sizeB = b < 0 ? -b : b;
                    return sizeA != 0 && sizeB > MOST_VALUE / sizeA ? ERROR : a * b;
                case BY:
                    return b == 0 ? ERROR : a / b;
                default:
                    return ERROR;
            }
        }
    }

    /** What a TEXT tells. */
    private static final class Garden {
        int growers = 0;
        int ribbons = 0;
        int blight = 0;
        int seed = 0;
        int knots = 0;
        final int[] names = new int[MOST_GROWERS];
        final int[] grows = new int[MOST_GROWERS];
        final int[] doubts = new int[MOST_GROWERS];
        final int[] places = new int[MOST_GROWERS];
        final Law[] laws = {new Law(), new Law(), new Law()};
        final Plot first = new Plot();

        void clear() {
            growers = 0;
            ribbons = 0;
            blight = 0;
            seed = 0;
            knots = 0;
            for (int i = 0; i < LAWS; i++) {
                laws[i].clear();
            }
            first.clear();
        }

        int numberOf(int letters) {
            for (int i = 0; i < growers; i++) {
                if (names[i] == letters) {
                    return i;
                }
            }
            return NONE;
        }

        int far(int one, int other) {
            int apart = places[one] - places[other];
            return apart < 0 ? -apart : apart;
        }

        /** The shortest way to all of these: to the nearer end first, then to the other one. */
        int wayFrom(int grower, int bits) {
            int left = 0;
            int right = 0;
            for (int i = 0; i < growers; i++) {
                int to = has(bits, i) ? places[i] - places[grower] : 0;
                left = -to > left ? -to : left;
                right = to > right ? to : right;
            }
            return left + right + (left < right ? left : right);
        }
    }

    /** What changes by years and by calls. */
    private static final class Plot {
        int year = 0;
        long number = 0;
        final int[] worth = new int[MOST_GROWERS];
        final int[] had = new int[MOST_GROWERS];
        final int[] seen = new int[MOST_GROWERS];
        final int[] holder = new int[MOST_RIBBONS];
        final int[] since = new int[MOST_RIBBONS];
        final int[] handed = new int[MOST_RIBBONS];

        void clear() {
            year = 0;
            number = 0;
            for (int i = 0; i < MOST_GROWERS; i++) {
                worth[i] = 0;
                had[i] = 0;
                seen[i] = 0;
            }
            for (int i = 0; i < MOST_RIBBONS; i++) {
                holder[i] = 0;
                since[i] = 0;
                handed[i] = 0;
            }
        }

        void become(Plot other) {
            year = other.year;
            number = other.number;
            System.arraycopy(other.worth, 0, worth, 0, MOST_GROWERS);
            System.arraycopy(other.had, 0, had, 0, MOST_GROWERS);
            System.arraycopy(other.seen, 0, seen, 0, MOST_GROWERS);
            System.arraycopy(other.holder, 0, holder, 0, MOST_RIBBONS);
            System.arraycopy(other.since, 0, since, 0, MOST_RIBBONS);
            System.arraycopy(other.handed, 0, handed, 0, MOST_RIBBONS);
        }

        boolean isSeen(int one, int other) {
            return has(seen[one], other);
        }

        void setSeen(int one, int other, boolean is) {
            seen[one] = is ? seen[one] | 1 << other : seen[one] & ~(1 << other);
        }

        int countSeen() {
            int many = 0;
            for (int i = 0; i < MOST_GROWERS; i++) {
                many += Integer.bitCount(seen[i]);
            }
            return many;
        }

        void addWorth(int grower, int by) {
            int sum = worth[grower] + by;
            worth[grower] = sum < 0 ? 0 : sum > MOST_WORTH ? MOST_WORTH : sum;
        }

        int worthOf(int bits) {
            int sum = 0;
            for (int i = 0; i < MOST_GROWERS; i++) {
                sum += has(bits, i) ? worth[i] : 0;
            }
            return sum;
        }

        void pass(int ribbon, int grower) {
            holder[ribbon] = grower;
            since[ribbon] = 0;
            handed[ribbon]++;
            had[grower] = had[grower] < MOST_OFTEN ? had[grower] + 1 : MOST_OFTEN;
        }

        void retain(int ribbon) {
            since[ribbon] = since[ribbon] < MOST_OFTEN ? since[ribbon] + 1 : MOST_OFTEN;
        }

        int draw() {
            number = number * 1103515245L + 12345L & 0x7fffffffL;
            return (int) (number / 65536L);
        }
    }

    /** A plot on which a garden's laws are at work: the real one, or one that is tried. */
    private static final class Course {
        private static final int NO_BLIGHT = 0;
        private static final int ALL_BLIGHTED = 1;
        private static final int BY_NUMBERS = 2;
        private static final int LOSS = 5;

        final Plot plot = new Plot();
        final int[] doubts = new int[MOST_GROWERS];
        private final long[] names = new long[NAMES];
        private final long[] values = new long[MOST_KNOTS];
        private Garden garden;
        private int blights = NO_BLIGHT;
        private boolean isGrowing = true;

        Course(Garden garden) {
            this.garden = garden;
        }

        /** Stands as the plot does, and goes on as it goes. */
        void begin(Garden garden, Plot from) {
            this.garden = garden;
            plot.become(from);
            System.arraycopy(garden.doubts, 0, doubts, 0, MOST_GROWERS);
            blights = garden.blight >= 50 ? ALL_BLIGHTED : NO_BLIGHT;
            isGrowing = true;
        }

        void drawBlight() {
            blights = garden.blight == 0 ? NO_BLIGHT : garden.blight == 100 ? ALL_BLIGHTED : BY_NUMBERS;
        }

        void otherwise(int what, int grower) {
            if (what == 0) {
                blights = NO_BLIGHT;
            }
            isGrowing = what != 4;
            for (int i = 0; i < garden.growers; i++) {
                if (what == 1) {
                    doubts[i] = 0;
                } else if (what == 2) {
                    plot.setSeen(i, grower, false);
                } else if (what == 3) {
                    plot.seen[i] = (1 << garden.growers) - 1 & ~(1 << i);
                }
            }
        }

        void years(int n) {
            for (int i = 0; i < n; i++) {
                year();
            }
        }

        void year() {
            if (isGrowing) {
                growAll();
            }
            if (blights != NO_BLIGHT) {
                blightAll();
            }
            for (int i = 0; i < garden.ribbons; i++) {
                int holder = plot.holder[i];
                int to = bestFor(holder);
                if (to >= 0 && gives(holder, plot.since[i])) {
                    plot.pass(i, to);
                } else {
                    plot.retain(i);
                }
            }
            plot.year++;
        }

        private void growAll() {
            for (int i = 0; i < garden.growers; i++) {
                long by = ownLaw(GROW, i, 0);
                by = by == ERROR ? garden.grows[i] : by;
                by = by < -MOST_GROWS ? -MOST_GROWS : by > MOST_GROWS ? MOST_GROWS : by;
                plot.addWorth(i, (int) by);
            }
        }

        private void blightAll() {
            for (int i = 0; i < garden.growers; i++) {
                if (blights == ALL_BLIGHTED || plot.draw() % 100 < garden.blight) {
                    plot.addWorth(i, -LOSS);
                }
            }
        }

        int bestFor(int grower) {
            int best = NOT_SO;
            int most = NONE;
            for (int i = 0; i < garden.growers; i++) {
                if (plot.isSeen(grower, i)) {
                    int esteem = esteem(grower, i);
                    if (esteem > most) {
                        most = esteem;
                        best = i;
                    }
                }
            }
            return best;
        }

        boolean gives(int grower, int since) {
            return ownLaw(GIVE, grower, since) != 0;
        }

        /** JUDGED of the other one by the one; not by judgeLaw, since lead would go nine calls deep. */
        int esteem(int one, int other) {
            tell(one, other, garden.far(one, other), 0);
            long value = garden.laws[JUDGE].worked(names, values);
            if (value == ERROR) {
                int plain = plot.worth[other] - doubts[one] * plot.had[other];
                return plain < 0 ? 0 : plain;
            }
            return value < 0 ? 0 : value > MOST_NUMBER ? MOST_NUMBER : (int) value;
        }

        long judgeLaw(int one, int other) {
            tell(one, other, garden.far(one, other), 0);
            return garden.laws[JUDGE].worked(names, values);
        }

        /** The law of growing or of giving. */
        long ownLaw(int which, int grower, int since) {
            tell(grower, grower, 0, since);
            return garden.laws[which].worked(names, values);
        }

        private void tell(int one, int other, int far, int since) {
            names[WORTH] = plot.worth[other];
            names[OWN] = plot.worth[one];
            names[DOUBT] = doubts[one];
            names[FAR] = far;
            names[HAD] = plot.had[other];
            names[SINCE] = since;
            names[YEAR] = plot.year;
        }
    }

    /** Where a RIBBON would go if nothing but its place changed. */
    private static final class Ring {
        private final int[] esteem = new int[PAIRS];
        private final boolean[] gives = new boolean[MOST_GROWERS];
        private final int[] seen = new int[MOST_GROWERS];
        private final int[] stepTo = new int[MOST_GROWERS];
        private int growers = 0;
        private int from = 0;
        boolean isRound = false;
        int steps = 0;
        int members = 0;

        /** What is JUDGED doesn't change on the way, so it is worked out once for all ways that are tried. */
        void prepare(Course course, int ribbon) {
            growers = course.garden.growers;
            from = course.plot.holder[ribbon];
            for (int i = 0; i < growers; i++) {
                seen[i] = course.plot.seen[i];
                gives[i] = course.gives(i, course.plot.since[ribbon]);
                for (int j = 0; j < growers; j++) {
                    esteem[i * MOST_GROWERS + j] = has(seen[i], j) ? course.esteem(i, j) : 0;
                }
            }
        }

        boolean isSeen(int pair) {
            return has(seen[pair / MOST_GROWERS], pair % MOST_GROWERS);
        }

        void turn(int pair) {
            seen[pair / MOST_GROWERS] ^= 1 << pair % MOST_GROWERS;
        }

        void follow() {
            int at = from;
            int was = 0;
            for (int step = 0; step <= growers; step++) {
                if (has(was, at)) {
                    isRound = true;
                    steps = stepTo[at];
                    members = since(steps, was);
                    return;
                }
                was |= 1 << at;
                stepTo[at] = step;
                int to = gives[at] ? bestFor(at) : NOT_SO;
                if (to < 0) {
                    isRound = false;
                    steps = step;
                    members = 1 << at;
                    return;
                }
                at = to;
            }
        }

        private int since(int step, int was) {
            int bits = 0;
            for (int i = 0; i < growers; i++) {
                bits |= has(was, i) && stepTo[i] >= step ? 1 << i : 0;
            }
            return bits;
        }

        private int bestFor(int grower) {
            int best = NOT_SO;
            for (int i = 0; i < growers; i++) {
                int row = grower * MOST_GROWERS;
                if (has(seen[grower], i) && (best < 0 || esteem[row + i] > esteem[row + best])) {
                    best = i;
                }
            }
            return best;
        }
    }

    /** The fewest SEES, two at most, by which something comes to be; a pair is six times one and another one. */
    private static final class Picks {
        private final int[] hosts = new int[PAIRS];
        private int many = NOT_SO;
        private int first = 0;
        private int second = 0;
        private int ribbon = 0;
        private int grower = 0;
        private int years = 0;
        private int hosted = 0;

        int told(int what) {
            if (many < what) {
                return NOT_SO;
            }
            if (what == 0) {
                return many;
            }
            int pair = what == 1 ? first : second;
            return pair / MOST_GROWERS * 10 + pair % MOST_GROWERS;
        }

        private void take(int many, int first, int second) {
            this.many = many;
            this.first = first;
            this.second = second;
        }

        void seekFree(Ring ring) {
            take(NOT_SO, 0, 0);
            ring.follow();
            if (!ring.isRound) {
                take(0, 0, 0);
                return;
            }
            for (int one = 0; one < PAIRS; one++) {
                if (ring.isSeen(one) && isFreed(ring, one, NONE)) {
                    take(1, one, 0);
                    return;
                }
            }
            for (int one = 0; one < PAIRS; one++) {
                for (int other = one + 1; other < PAIRS; other++) {
                    if (ring.isSeen(one) && ring.isSeen(other) && isFreed(ring, one, other)) {
                        take(2, one, other);
                        return;
                    }
                }
            }
        }

        private static boolean isFreed(Ring ring, int one, int other) {
            turn(ring, one, other);
            ring.follow();
            turn(ring, one, other);
            return !ring.isRound;
        }

        private static void turn(Ring ring, int one, int other) {
            ring.turn(one);
            if (other != NONE) {
                ring.turn(other);
            }
        }

        void aim(int ribbon, int grower, int years) {
            this.ribbon = ribbon;
            this.grower = grower;
            this.years = years;
        }

        /** A SEES of one who never has a RIBBON changes nothing: what would go as without it isn't tried. */
        void seekLead(Course trial, Garden garden, Plot plot) {
            take(NOT_SO, 0, 0);
            trial.begin(garden, plot);
            if (comes(trial)) {
                take(0, 0, 0);
                return;
            }
            int hostsNow = hosted;
            for (int one = 0; one < PAIRS; one++) {
                hosts[one] = hostsNow;
                if (isMissing(one, garden, plot) && has(hostsNow, one / MOST_GROWERS)) {
                    trial.begin(garden, plot);
                    add(trial, one);
                    if (comes(trial)) {
                        take(1, one, 0);
                        return;
                    }
                    hosts[one] = hosted;
                }
            }
        }

        boolean areFound() {
            return many >= 0;
        }

        /** Behind seekLead, which notes who has a RIBBON with each of the two alone. */
        void seekTwoLeads(Course trial, Garden garden, Plot plot) {
            for (int one = 0; one < PAIRS; one++) {
                if (!isMissing(one, garden, plot)) {
                    continue;
                }
                for (int other = one + 1; other < PAIRS; other++) {
                    if (isMissing(other, garden, plot) && matter(one, other)) {
                        trial.begin(garden, plot);
                        add(trial, one);
                        add(trial, other);
                        if (comes(trial)) {
                            take(2, one, other);
                            return;
                        }
                    }
                }
            }
        }

        private boolean matter(int one, int other) {
            return has(hosts[one], other / MOST_GROWERS) && has(hosts[other], one / MOST_GROWERS);
        }

        private static boolean isMissing(int pair, Garden garden, Plot plot) {
            int one = pair / MOST_GROWERS;
            int other = pair % MOST_GROWERS;
            return one != other && one < garden.growers && other < garden.growers && !plot.isSeen(one, other);
        }

        private static void add(Course trial, int pair) {
            trial.plot.setSeen(pair / MOST_GROWERS, pair % MOST_GROWERS, true);
        }

        private boolean comes(Course trial) {
            hosted = 0;
            for (int i = 0; i < years; i++) {
                for (int j = 0; j < trial.garden.ribbons; j++) {
                    hosted |= 1 << trial.plot.holder[j];
                }
                trial.year();
            }
            return trial.plot.holder[ribbon] == grower;
        }
    }

    /** All rows of some GROWERS, the first by GROWERS first, and the one that costs least. */
    private static final class Rows {
        private static final int MOST_ROWS = 720;

        private final int[] row = new int[MOST_GROWERS];
        private final int[] chosen = new int[MOST_GROWERS];
        private int length = 0;
        int least = 0;

        int at(int place) {
            return place >= 0 && place < length ? chosen[place] : NOT_SO;
        }

        void seekWalk(Garden garden, int from) {
            begin(garden.growers, from);
            for (int i = 0; i < MOST_ROWS; i++) {
                int way = 0;
                int at = from;
                for (int j = 0; j < length; j++) {
                    way += garden.far(at, row[j]);
                    at = row[j];
                }
                take(i, way);
                if (!advance()) {
                    return;
                }
            }
        }

        /** What is KNOWN is marked. */
        void seekOrder(int growers, Told told, Plot plot) {
            begin(growers, NONE);
            for (int i = 0; i < MOST_ROWS; i++) {
                int clashes = 0;
                int ahead = 0;
                for (int j = 0; j < length; j++) {
                    clashes += told.clashes(row[j], ahead, plot);
                    ahead |= 1 << row[j];
                }
                take(i, clashes);
                if (!advance()) {
                    return;
                }
            }
        }

        private void begin(int growers, int without) {
            length = 0;
            for (int i = 0; i < growers; i++) {
                if (i != without) {
                    row[length] = i;
                    length++;
                }
            }
        }

        private void take(int number, int cost) {
            if (number == 0 || cost < least) {
                least = cost;
                System.arraycopy(row, 0, chosen, 0, length);
            }
        }

        /** The next row by GROWERS: where it last rises the next greater one comes, the least order behind it. */
        private boolean advance() {
            int rise = NONE;
            for (int i = 0; i + 1 < length; i++) {
                rise = row[i] < row[i + 1] ? i : rise;
            }
            if (rise == NONE) {
                return false;
            }
            int greater = rise + 1;
            for (int i = rise + 1; i < length; i++) {
                greater = row[i] > row[rise] ? i : greater;
            }
            swap(rise, greater);
            for (int i = rise + 1, j = length - 1; i < j; i++, j--) {
                swap(i, j);
            }
            return true;
        }

        private void swap(int i, int j) {
            int was = row[i];
            row[i] = row[j];
            row[j] = was;
        }
    }

    /** HANDINGS, SIGHTS and STRIKES. */
    private static final class Told {
        static final int MOST_BEHIND = 60;
        private static final int ROOM = 24;
        private static final int HANDING = 0;
        private static final int SIGHT = 1;
        private static final int STRIKE = 2;

        private final int[] kind = new int[ROOM];
        /** Who handed, the RIBBON that was seen, what is STRUCK. */
        private final int[] one = new int[ROOM];
        /** To whom it was handed, with whom it was seen. */
        private final int[] other = new int[ROOM];
        private final int[] years = new int[ROOM];
        private final boolean[] is = new boolean[ROOM];
        private final boolean[] isKnown = new boolean[ROOM];
        int count = 0;
        int by = NONE;

        void forget() {
            count = 0;
            by = NONE;
        }

        int end() {
            return by == NONE ? count : by;
        }

        int addHanding(int from, int to) {
            return add(HANDING, from, to);
        }

        int addSight(int behind, int ribbon, int grower, boolean so) {
            int number = add(SIGHT, ribbon, grower);
            if (number >= 0) {
                years[number] = behind;
                is[number] = so;
            }
            return number;
        }

        int addStrike(int number) {
            return add(STRIKE, number, 0);
        }

        private int add(int what, int first, int second) {
            if (count >= ROOM) {
                return NONE;
            }
            kind[count] = what;
            one[count] = first;
            other[count] = second;
            count++;
            return count - 1;
        }

        /** From the last one on, so that a STRIKE that is STRUCK is known as such ahead of what it strikes. */
        void mark() {
            int end = end();
            for (int i = 0; i < ROOM; i++) {
                isKnown[i] = i < end;
            }
            for (int i = end - 1; i >= 0; i--) {
                if (isKnown[i] && kind[i] == STRIKE) {
                    isKnown[one[i]] = false;
                }
            }
        }

        /** How many KNOWN HANDINGS to one CLASH, if these are ahead of it. */
        int clashes(int to, int ahead, Plot plot) {
            int many = 0;
            for (int i = 0; i < count; i++) {
                boolean isTo = isKnown[i] && kind[i] == HANDING && other[i] == to;
                many += isTo && (plot.seen[one[i]] & ahead) != 0 ? 1 : 0;
            }
            return many;
        }

        int lastYear() {
            int last = 0;
            for (int i = 0; i < count; i++) {
                if (isKnown[i] && kind[i] == SIGHT && years[i] > last) {
                    last = years[i];
                }
            }
            return last;
        }

        /** Whether all KNOWN SIGHTS behind so many YEARS are so on this plot. */
        boolean isSo(int year, Plot plot) {
            for (int i = 0; i < count; i++) {
                boolean isThen = isKnown[i] && kind[i] == SIGHT && years[i] == year;
                if (isThen && plot.holder[one[i]] == other[i] != is[i]) {
                    return false;
                }
            }
            return true;
        }
    }

    /** What was done by call and can be undone: what was there ahead of it. */
    private static final class Deeds {
        private static final int ROOM = 20;
        private static final int SHOWN = 0;
        private static final int RAISED = 1;
        private static final int HANDED = 2;

        private final int[] kind = new int[ROOM];
        /** The GROWER that was shown another one, was raised or was handed a RIBBON. */
        private final int[] grower = new int[ROOM];
        /** Whom it SAW, its WORTH, how often it HAD one. */
        private final int[] was = new int[ROOM];
        private final int[] ribbon = new int[ROOM];
        private final int[] holder = new int[ROOM];
        private final int[] since = new int[ROOM];
        private int count = 0;

        boolean isEmpty() {
            return count == 0;
        }

        int many() {
            return count;
        }

        void forget() {
            count = 0;
        }

        void noteShow(int one, int seen) {
            add(SHOWN, one, seen);
        }

        void noteRaise(int one, int worth) {
            add(RAISED, one, worth);
        }

        void noteHand(int which, int to, Plot plot) {
            add(HANDED, to, plot.had[to]);
            ribbon[count - 1] = which;
            holder[count - 1] = plot.holder[which];
            since[count - 1] = plot.since[which];
        }

        private void add(int what, int one, int before) {
            if (count >= ROOM) {
                dropFirst();
            }
            kind[count] = what;
            grower[count] = one;
            was[count] = before;
            count++;
        }

        private void dropFirst() {
            System.arraycopy(kind, 1, kind, 0, ROOM - 1);
            System.arraycopy(grower, 1, grower, 0, ROOM - 1);
            System.arraycopy(was, 1, was, 0, ROOM - 1);
            System.arraycopy(ribbon, 1, ribbon, 0, ROOM - 1);
            System.arraycopy(holder, 1, holder, 0, ROOM - 1);
            System.arraycopy(since, 1, since, 0, ROOM - 1);
            count = ROOM - 1;
        }

        /** How many are left. */
        int takeBack(Plot plot) {
            if (count == 0) {
                return NONE;
            }
            count--;
            int one = grower[count];
            if (kind[count] == SHOWN) {
                plot.seen[one] = was[count];
            } else if (kind[count] == RAISED) {
                plot.worth[one] = was[count];
            } else {
                plot.had[one] = was[count];
                plot.holder[ribbon[count]] = holder[count];
                plot.since[ribbon[count]] = since[count];
                plot.handed[ribbon[count]]--;
            }
            return count;
        }
    }
}
