import java.util.Arrays;
import java.util.NoSuchElementException;

/** A realm whose regions are stretched by vote; the document's promises 1 to 37, one public method each. */
public final class ScaleVote {
    public static final int NONE = -1;

    /** Answered where the call is right but what it asks for isn't to be had. */
    private static final int NOT_SO = -2;
    private static final int NO_SUCH = Integer.MIN_VALUE;
    /** The VALUE of an E that has an ERROR, and of a law that isn't told. */
    private static final long ERROR = Long.MIN_VALUE;
    private static final long MOST_VALUE = 1000000000000L;

    private static final int MOST_BYTES = 700;
    private static final int BYTES_A_FEED = 20;
    private static final int MOST_REGIONS = 6;
    private static final int MOST_JOINS = 9;
    private static final int MOST_PEOPLE = 8;
    private static final int MOST_DEBTS = 6;
    private static final int MOST_KNOTS = 64;
    private static final int MOST_OPEN = 8;
    private static final int MOST_STONES = 24;
    private static final int MOST_UNDONE = 20;
    private static final int MOST_SCALE = 9;
    private static final int MOST_NUMBER = 9999;
    private static final int MOST_SEASON = 9999;
    private static final int MOST_SEASONS = 99;
    private static final int MOST_AHEAD = 60;
    private static final int MOST_SET_OUT = 20;
    private static final int MOST_STONE_SEASONS = 30;
    private static final int LOOSEST_TEAR = 8;
    private static final int USUAL_TEAR = 2;

    private static final int LAW_GAIN = 0;
    private static final int LAW_YIELD = 1;
    private static final int LAW_WAY = 2;
    private static final int LAW_KINDS = 3;

    /** Stands where a PERSON isn't CANVASSED; no vote is 2. */
    private static final int UNCALLED = 2;

    /** What a world is tried by: AS_IT_IS, or one of TRIED by its number. */
    private static final int AS_IT_IS = -1;
    private static final int NOBODY_VOTES = 0;
    private static final int ALL_WEIGH_ONE = 1;
    private static final int ONE_IS_MUTE = 2;
    private static final int TEAR_IS_LOOSE = 3;
    private static final int ALL_WANT_LARGER = 4;

    private static final int FAULT_TOKEN = 1;
    private static final int FAULT_TOO_MUCH = 2;
    private static final int FAULT_TOLD = 3;
    private static final int FAULT_UNTOLD = 4;
    private static final int FAULT_ITSELF = 5;

    private static final int END = 0;
    private static final int BAD = 1;
    private static final int NUMBER = 2;
    private static final int OWN_WORD = 3;
    private static final int SEMICOLON = 4;
    private static final int OPEN = 5;
    private static final int CLOSE = 6;
    private static final int LESS = 7;
    private static final int LESS_OR_LIKE = 8;
    private static final int LIKE = 9;
    private static final int UNLIKE = 10;
    private static final int MORE_OR_LIKE = 11;
    private static final int MORE = 12;
    private static final int PLUS = 13;
    private static final int MINUS = 14;
    private static final int TIMES = 15;
    private static final int BY = 16;

    /** The language's words, each with a blank behind it; the first one's token is FIRST_WORD, and so on. */
    private static final String WORDS = "region join person debt tear law yard gain yield way or and not scale size area length crowd torn season ";
    private static final int FIRST_WORD = 20;
    private static final int WORD_REGION = 20;
    private static final int WORD_JOIN = 21;
    private static final int WORD_PERSON = 22;
    private static final int WORD_DEBT = 23;
    private static final int WORD_TEAR = 24;
    private static final int WORD_LAW = 25;
    private static final int WORD_YARD = 26;
    private static final int WORD_GAIN = 27;
    private static final int WORD_WAY = 29;
    private static final int WORD_OR = 30;
    private static final int WORD_AND = 31;
    private static final int WORD_NOT = 32;
    private static final int WORD_SCALE = 33;
    private static final int WORD_SEASON = 39;
    private static final int LETTERS = 6;
    private static final int LETTER_BITS = 5;
    private static final int FIRST_SHIFT = 25;
    private static final int NAMES = 7;

    private final Reader reader;
    /** The TEXT in force, and one to read into, so that a TEXT with a FAULT leaves all as it was. */
    private Realm told;
    private Realm spare;
    private final World now;
    private final World trial;
    private final World image;
    private boolean kept;
    private final Past past;
    private final Stones stones;
    private final Ballot ballot;
    private final Best best;
    private final Travel travel;
    private final Living living;
    private final Draws draws;

    public ScaleVote() {
        told = new Realm();
        spare = new Realm();
        reader = new Reader(spare);
        now = new World(told);
        trial = new World(told);
        image = new World(told);
        past = new Past();
        stones = new Stones();
        ballot = new Ballot();
        best = new Best();
        travel = new Travel();
        living = new Living();
        draws = new Draws();
    }

    public int feed(int a, int b, int c, int d, int e) {
        if (reader.fed + BYTES_A_FEED > MOST_BYTES) {
            return NONE;
        }
        reader.append(a);
        reader.append(b);
        reader.append(c);
        reader.append(d);
        reader.append(e);
        return reader.fed;
    }

    public int text(int n) {
        if (n < 0 || n > reader.fed) {
            return NOT_SO;
        }
        int lines = reader.read(n, spare);
        if (lines == NONE) {
            return NONE;
        }
        Realm before = told;
        told = spare;
        spare = before;
        now.start(told);
        kept = false;
        past.clear();
        stones.clear();
        return lines;
    }

    public int fault(int what) {
        switch (what) {
            case 0:
                return reader.fault;
            case 1:
                return reader.faultPlace;
            default:
                return NONE;
        }
    }

    public int named(int what, int letters) {
        switch (what) {
            case 0:
                return told.regionNamed(letters);
            case 1:
                return told.personNamed(letters);
            default:
                return NONE;
        }
    }

    public int person(int person, int what) throws IndexOutOfBoundsException, NoSuchElementException {
        if (!isPerson(person)) {
            throw new IndexOutOfBoundsException("no such person");
        }
        switch (what) {
            case 0:
                return now.home[person];
            case 1:
                return told.size[person];
            case 2:
                return told.weight[person];
            case 3:
                return now.voteOf(person);
            case 4:
                return now.tooBig[person];
            case 5:
                return now.called[person] == UNCALLED ? 0 : 1;
            default:
                throw new NoSuchElementException("no such what");
        }
    }

    public int region(int region, int what) {
        if (!isRegion(region)) {
            return NO_SUCH;
        }
        switch (what) {
            case 0:
                return now.scale[region];
            case 1:
                return told.area[region];
            case 2:
                return told.homes[region];
            case 3:
                return now.crowd[region];
            case 4:
                return now.voteIn(region);
            case 5:
                return now.yieldOf(region);
            case 6:
                return now.yielded[region];
            case 7:
                return now.tears[region];
            default:
                return NO_SUCH;
        }
    }

    public int join(int one, int other, int what) {
        if (!isRegion(one) || !isRegion(other) || what < 0 || what > 1) {
            return NONE;
        }
        int found = told.joinOf(one, other);
        if (found == NONE) {
            return NOT_SO;
        }
        if (what == 0) {
            return told.length[found];
        }
        return now.torn[found];
    }

    public int gain(int person, int scale) {
        if (!isPerson(person) || !isScale(scale)) {
            return NO_SUCH;
        }
        return now.gainOf(person, now.home[person], scale);
    }

    public long law(int what, int which) {
        switch (what) {
            case 0:
                return isPerson(which) ? now.gainLaw(which) : ERROR;
            case 1:
                return isRegion(which) ? now.yieldLaw(which) : ERROR;
            case 2:
                return which >= 0 && which < told.joins ? now.wayLaw(which) : ERROR;
            default:
                return ERROR;
        }
    }

    public boolean canvass(int person, int vote) {
        if (!isPerson(person) || vote < -1 || vote > 1 || now.called[person] == vote) {
            return false;
        }
        past.add(Past.CANVASS, person, now.called[person]);
        now.called[person] = vote;
        return true;
    }

    public boolean move(int person, int region) {
        if (!isPerson(person) || !isRegion(region) || now.home[person] == region) {
            return false;
        }
        if (now.crowd[region] >= told.homes[region]) {
            return false;
        }
        past.add(Past.MOVE, person, now.home[person]);
        now.settle(person, region);
        return true;
    }

    public boolean decree(int region, int scale) {
        if (!isRegion(region) || !isScale(scale) || now.scale[region] == scale) {
            return false;
        }
        past.add(Past.DECREE, region, now.scale[region]);
        now.scale[region] = scale;
        now.tearJoins();
        return true;
    }

    public int seasons(int n) {
        if (n < 0 || n > MOST_SEASONS || now.season + n > MOST_SEASON) {
            return NONE;
        }
        for (int k = 0; k < n; k++) {
            now.pass();
        }
        if (n > 0) {
            past.clear();
        }
        return now.season;
    }

    public int ahead(int region, int n, int what) {
        if (!isRegion(region) || !isAhead(n) || what < 0 || what > 1) {
            return NONE;
        }
        trial.copy(now);
        for (int k = 0; k < n; k++) {
            trial.pass();
        }
        return what == 0 ? trial.scale[region] : trial.yielded[region] - now.yielded[region];
    }

    public int steady(int n) {
        if (n < 1 || n > MOST_SEASONS) {
            return NONE;
        }
        trial.copy(now);
        for (int k = 0; k <= n; k++) {
            if (!trial.stretch()) {
                return k;
            }
            trial.close();
        }
        return NOT_SO;
    }

    public int decides(int person) {
        return isPerson(person) ? ballot.setsDecidedBy(now, person) : NONE;
    }

    public int buy(int region, boolean larger) {
        return isRegion(region) ? ballot.fewest(now, region, larger ? 1 : -1) : NONE;
    }

    public int best(int what) {
        if (what < 0 || what > Best.MOST_FREE) {
            return NONE;
        }
        if (what > told.regions) {
            return NOT_SO;
        }
        best.seek(now);
        return what == 0 ? best.most : best.found[what - 1];
    }

    public int gaps() {
        return now.gapsWith(NONE, 0);
    }

    public int mend(int what) {
        if (what < 0 || what > 1) {
            return NONE;
        }
        int mended = NOT_SO;
        int least = now.gapsWith(NONE, 0);
        for (int region = 0; region < told.regions; region++) {
            for (int step = 1; step >= -1; step -= 2) {
                if (isScale(now.scale[region] + step) && now.gapsWith(region, step) < least) {
                    least = now.gapsWith(region, step);
                    mended = region;
                }
            }
        }
        return what == 0 ? mended : least;
    }

    public int way(int one, int other, int out) {
        if (!isRegion(one) || !isRegion(other) || !isAhead(out)) {
            return NONE;
        }
        trial.copy(now);
        return travel.arrive(trial, one, other, out, out);
    }

    public int setOut(int one, int other) {
        if (!isRegion(one) || !isRegion(other)) {
            return NONE;
        }
        trial.copy(now);
        // By waiting, who sets out now comes as soon as anybody: so the first to come tells both.
        int there = travel.arrive(trial, one, other, 0, MOST_SET_OUT);
        return there == NOT_SO ? NOT_SO : travel.latestOut(there, other);
    }

    public int live(int person) {
        if (!isPerson(person)) {
            return NONE;
        }
        return living.homeOf(now, person);
    }

    public int owed(int debt, int what) {
        if (debt < 0 || debt >= told.debts) {
            return NONE;
        }
        switch (what) {
            case 0:
                return owedNow(debt);
            case 1:
                return told.debtor[debt];
            case 2:
                return told.amount[debt];
            default:
                return NONE;
        }
    }

    public int rests(int one, int other) {
        if (!mayBargain(one, other)) {
            return NONE;
        }
        return Integer.bitCount(ballot.restsOf(now, one, other));
    }

    public int rest(int one, int other, int k) {
        if (!mayBargain(one, other) || k < 0) {
            return NONE;
        }
        int found = ballot.restsOf(now, one, other);
        int ahead = 0;
        for (int votes = 0; votes < 4; votes++) {
            if ((found >> votes & 1) == 1) {
                if (ahead == k) {
                    return (votes >> 1) * 10 + (votes & 1);
                }
                ahead++;
            }
        }
        return NOT_SO;
    }

    public int stone(int seasons, int region, int scale, boolean atLeast) {
        if (seasons < 1 || seasons > MOST_STONE_SEASONS || !isRegion(region) || !isScale(scale)) {
            return NONE;
        }
        return stones.add(atLeast ? Stones.AT_LEAST : Stones.BELOW, seasons, region, scale);
    }

    public int strike(int stone) {
        if (stone < 0 || stone >= stones.size) {
            return NONE;
        }
        return stones.add(Stones.STRIKE, 0, stone, 0);
    }

    public boolean known(int n) {
        if (n < Stones.ALL || n > stones.size) {
            return false;
        }
        stones.knownBy = n;
        return true;
    }

    public int had(int region) {
        if (!isRegion(region)) {
            return NONE;
        }
        stones.weigh();
        int scales = 0;
        for (int scale = 1; scale <= MOST_SCALE; scale++) {
            trial.start(told);
            trial.scale[region] = scale;
            trial.tearJoins();
            if (stones.agreeWith(trial)) {
                scales |= 1 << scale;
            }
        }
        return scales;
    }

    public int chance(int seed, int n, int region, int scale) {
        if (seed < 0 || n < 1 || n > MOST_AHEAD || !isRegion(region) || !isScale(scale)) {
            return NONE;
        }
        draws.last = seed;
        int times = 0;
        for (int k = 0; k < 10; k++) {
            trial.copy(now);
            for (int season = 0; season < n; season++) {
                draws.canvassSome(trial);
                trial.stretch();
                trial.close();
            }
            if (trial.scale[region] >= scale) {
                times++;
            }
        }
        return times;
    }

    public int tried(int what, int i, int n) {
        if (what < NOBODY_VOTES || what > ALL_WANT_LARGER || !isAhead(n)) {
            return NONE;
        }
        if (what == ONE_IS_MUTE ? !isPerson(i) : i != 0) {
            return NONE;
        }
        trial.copy(now);
        trial.mode = what;
        trial.mute = i;
        for (int k = 0; k < n; k++) {
            trial.pass();
        }
        return trial.yieldedInAll() - now.yieldedInAll();
    }

    public int undo() {
        if (!past.takeLatest()) {
            return NONE;
        }
        switch (past.kind) {
            case Past.CANVASS:
                now.called[past.which] = past.was;
                break;
            case Past.MOVE:
                now.settle(past.which, past.was);
                break;
            default:
                now.scale[past.which] = past.was;
                now.tearJoins();
                break;
        }
        return past.size;
    }

    public int keep() {
        image.copy(now);
        kept = true;
        return now.season;
    }

    public int back() {
        if (!kept) {
            return NONE;
        }
        now.copy(image);
        past.clear();
        return now.season;
    }

    public int count(int what) {
        switch (what) {
            case 0:
                return told.regions;
            case 1:
                return told.joins;
            case 2:
                return told.people;
            case 3:
                return told.debts;
            case 4:
                return told.laws.knots;
            case 5:
                return now.season;
            case 6:
                return now.scalesInSum();
            case 7:
                return now.tornInAll();
            case 8:
                return now.yieldedInAll();
            case 9:
                return now.tooBigInAll();
            case 10:
                return now.calledInAll();
            case 11:
                return stones.size;
            case 12:
                return stones.knownCount();
            case 13:
                return past.size;
            default:
                return NONE;
        }
    }

    private boolean isRegion(int region) {
        return region >= 0 && region < told.regions;
    }

    private boolean isPerson(int person) {
        return person >= 0 && person < told.people;
    }

    private boolean mayBargain(int one, int other) {
        return isPerson(one) && isPerson(other) && one != other && now.home[one] == now.home[other];
    }

    private int owedNow(int debt) {
        int amount = told.amount[debt];
        int region = now.home[told.debtor[debt]];
        int scaleTold = told.scale[region];
        if (!told.byYard[debt] || scaleTold == 0) {
            return amount;
        }
        return amount * now.scale[region] / scaleTold;
    }

    private static boolean isScale(int scale) {
        return scale >= 1 && scale <= MOST_SCALE;
    }

    private static boolean isAhead(int n) {
        return n >= 0 && n <= MOST_AHEAD;
    }

    private static int within(long value, int low, int high) {
        if (value < low) {
            return low;
        }
        return value > high ? high : (int) value;
    }

    /** The SCALE behind a SEASON in which a REGION of this SCALE has this VOTE. */
    private static int stretched(int scale, int vote) {
        if (vote > 0) {
            return Math.min(MOST_SCALE, scale + 1);
        }
        return vote < 0 ? Math.max(1, scale - 1) : scale;
    }

    /** The laws of a TEXT: each E as its KNOTS in the order in which they are worked out. */
    private static final class Laws {
        final int[] ops = new int[MOST_KNOTS];
        final int[] values = new int[MOST_KNOTS];
        final int[] from = new int[LAW_KINDS];
        final int[] to = new int[LAW_KINDS];
        final long[] stack = new long[MOST_KNOTS];
        int size;
        /** KNOTS read so far: a sign counts where it stands, but is put behind what it joins. */
        int knots;

        void clear() {
            size = 0;
            knots = 0;
            Arrays.fill(from, 0);
            Arrays.fill(to, 0);
        }

        boolean isTold(int law) {
            return to[law] > from[law];
        }

        void begin(int law) {
            from[law] = size;
            to[law] = size;
        }

        void end(int law) {
            to[law] = size;
        }

        void add(int op, int value) {
            if (size < MOST_KNOTS) {
                ops[size] = op;
                values[size] = value;
                size++;
            }
        }

        long work(int law, long[] names) {
            int top = 0;
            for (int k = from[law]; k < to[law]; k++) {
                int op = ops[k];
                if (op == NUMBER || op >= WORD_SCALE) {
                    if (top >= MOST_KNOTS) {
                        return ERROR;
                    }
                    stack[top] = op == NUMBER ? values[k] : names[op - WORD_SCALE];
                    top++;
                } else if (op == WORD_NOT) {
                    if (top < 1) {
                        return ERROR;
                    }
                    stack[top - 1] = stack[top - 1] == 0 ? 1 : 0;
                } else {
                    if (top < 2) {
                        return ERROR;
                    }
                    top--;
                    long value = joined(op, stack[top - 1], stack[top]);
                    if (value > MOST_VALUE || value < -MOST_VALUE) {
                        return ERROR;
                    }
                    stack[top - 1] = value;
                }
            }
            return top == 1 ? stack[0] : ERROR;
        }

        private static long joined(int op, long a, long b) {
            switch (op) {
                case PLUS:
                    return a + b;
                case MINUS:
                    return a - b;
                case TIMES:
                    // Looked at ahead: the product itself may be beyond a long.
                    return a != 0 && Math.abs(b) > MOST_VALUE / Math.abs(a) ? ERROR : a * b;
                case BY:
                    return b == 0 ? ERROR : a / b;
                case LESS:
                    return a < b ? 1 : 0;
                case LESS_OR_LIKE:
                    return a <= b ? 1 : 0;
                case LIKE:
                    return a == b ? 1 : 0;
                case UNLIKE:
                    return a != b ? 1 : 0;
                case MORE_OR_LIKE:
                    return a >= b ? 1 : 0;
                case MORE:
                    return a > b ? 1 : 0;
                case WORD_AND:
                    return a != 0 && b != 0 ? 1 : 0;
                default:
                    return a != 0 || b != 0 ? 1 : 0;
            }
        }
    }

    /** What a TEXT tells, as it stood when nothing had happened yet. */
    private static final class Realm {
        int regions;
        final int[] regionName = new int[MOST_REGIONS];
        final int[] scale = new int[MOST_REGIONS];
        final int[] area = new int[MOST_REGIONS];
        final int[] homes = new int[MOST_REGIONS];
        int joins;
        final int[] joinOne = new int[MOST_JOINS];
        final int[] joinOther = new int[MOST_JOINS];
        final int[] length = new int[MOST_JOINS];
        int people;
        final int[] personName = new int[MOST_PEOPLE];
        final int[] region = new int[MOST_PEOPLE];
        final int[] size = new int[MOST_PEOPLE];
        final int[] weight = new int[MOST_PEOPLE];
        int debts;
        final int[] debtor = new int[MOST_DEBTS];
        final int[] amount = new int[MOST_DEBTS];
        final boolean[] byYard = new boolean[MOST_DEBTS];
        int tear = USUAL_TEAR;
        final Laws laws = new Laws();

        void clear() {
            regions = 0;
            joins = 0;
            people = 0;
            debts = 0;
            tear = USUAL_TEAR;
            laws.clear();
        }

        int regionNamed(int letters) {
            for (int k = 0; k < regions; k++) {
                if (regionName[k] == letters) {
                    return k;
                }
            }
            return NONE;
        }

        int personNamed(int letters) {
            for (int k = 0; k < people; k++) {
                if (personName[k] == letters) {
                    return k;
                }
            }
            return NONE;
        }

        int joinOf(int one, int other) {
            for (int k = 0; k < joins; k++) {
                boolean asTold = joinOne[k] == one && joinOther[k] == other;
                boolean otherWay = joinOne[k] == other && joinOther[k] == one;
                if (asTold || otherWay) {
                    return k;
                }
            }
            return NONE;
        }

        int debtOf(int person) {
            for (int k = 0; k < debts; k++) {
                if (debtor[k] == person) {
                    return k;
                }
            }
            return NONE;
        }
    }

    /** The TAPE, and the reading of a TEXT from it up to its first FAULT. */
    private static final class Reader {
        final byte[] tape = new byte[MOST_BYTES];
        int fed;
        int fault;
        int faultPlace = NONE;
        private Realm realm;
        private int length;
        private int place;
        private int token;
        private int tokenPlace;
        /** Of a NUMBER its value, of an OWN_WORD its letters. */
        private int tokenValue;
        private boolean tearTold;
        /** Signs of an E, '(' among them, that wait for what is right of them. */
        private final int[] signs = new int[MOST_KNOTS + MOST_OPEN];
        private int signCount;
        private int open;

        Reader(Realm into) {
            realm = into;
        }

        void append(int number) {
            for (int shift = 24; shift >= 0; shift -= 8) {
                if (fed < MOST_BYTES) {
                    tape[fed] = (byte) (number >> shift);
                    fed++;
                }
            }
        }

        /** How many LINES the first n bytes have; NONE with a FAULT. The TAPE is empty then. */
        int read(int n, Realm into) {
            realm = into;
            realm.clear();
            length = n;
            place = 0;
            fed = 0;
            fault = 0;
            faultPlace = NONE;
            tearTold = false;
            advance();
            int lines = 0;
            while (lines < MOST_BYTES && token != END) {
                switch (token) {
                    case WORD_REGION:
                        readRegion();
                        break;
                    case WORD_JOIN:
                        readJoin();
                        break;
                    case WORD_PERSON:
                        readPerson();
                        break;
                    case WORD_DEBT:
                        readDebt();
                        break;
                    case WORD_TEAR:
                        readTear();
                        break;
                    case WORD_LAW:
                        readLaw();
                        break;
                    default:
                        fail(FAULT_TOKEN);
                        break;
                }
                if (token != SEMICOLON) {
                    fail(FAULT_TOKEN);
                }
                if (fault != 0) {
                    return NONE;
                }
                advance();
                lines++;
            }
            return lines;
        }

        private void readRegion() {
            int k = realm.regions;
            if (k >= MOST_REGIONS) {
                fail(FAULT_TOO_MUCH);
                return;
            }
            advance();
            int name = takeNewName(realm.regionNamed(tokenValue));
            int scale = takeNumber(1, MOST_SCALE);
            int area = takeNumber(1, 99);
            int homes = takeNumber(0, 9);
            if (fault == 0) {
                realm.regionName[k] = name;
                realm.scale[k] = scale;
                realm.area[k] = area;
                realm.homes[k] = homes;
                realm.regions++;
            }
        }

        private void readJoin() {
            int k = realm.joins;
            if (k >= MOST_JOINS) {
                fail(FAULT_TOO_MUCH);
                return;
            }
            advance();
            int one = takeToldName(realm.regionNamed(tokenValue));
            int other = realm.regionNamed(tokenValue);
            if (fault == 0 && token == OWN_WORD && other != NONE) {
                if (realm.joinOf(one, other) != NONE) {
                    fail(FAULT_TOLD);
                } else if (one == other) {
                    fail(FAULT_ITSELF);
                }
            }
            takeToldName(other);
            int joinLength = takeNumber(1, 9);
            if (fault == 0) {
                realm.joinOne[k] = one;
                realm.joinOther[k] = other;
                realm.length[k] = joinLength;
                realm.joins++;
            }
        }

        private void readPerson() {
            int k = realm.people;
            if (k >= MOST_PEOPLE) {
                fail(FAULT_TOO_MUCH);
                return;
            }
            advance();
            int name = takeNewName(realm.personNamed(tokenValue));
            int region = takeToldName(realm.regionNamed(tokenValue));
            int size = takeNumber(1, 9);
            int weight = takeNumber(0, 3);
            if (fault == 0) {
                realm.personName[k] = name;
                realm.region[k] = region;
                realm.size[k] = size;
                realm.weight[k] = weight;
                realm.people++;
            }
        }

        private void readDebt() {
            int k = realm.debts;
            if (k >= MOST_DEBTS) {
                fail(FAULT_TOO_MUCH);
                return;
            }
            advance();
            int debtor = realm.personNamed(tokenValue);
            if (token == OWN_WORD && debtor != NONE && realm.debtOf(debtor) != NONE) {
                fail(FAULT_TOLD);
            }
            takeToldName(debtor);
            int amount = takeNumber(1, 99);
            if (fault == 0) {
                realm.debtor[k] = debtor;
                realm.amount[k] = amount;
                realm.byYard[k] = token == WORD_YARD;
                realm.debts++;
                if (token == WORD_YARD) {
                    advance();
                }
            }
        }

        private void readTear() {
            if (tearTold) {
                fail(FAULT_TOLD);
                return;
            }
            tearTold = true;
            advance();
            realm.tear = takeNumber(0, LOOSEST_TEAR);
        }

        private void readLaw() {
            advance();
            if (token < WORD_GAIN || token > WORD_WAY) {
                fail(FAULT_TOKEN);
                return;
            }
            int law = token - WORD_GAIN;
            if (realm.laws.isTold(law)) {
                fail(FAULT_TOLD);
                return;
            }
            advance();
            realm.laws.begin(law);
            signCount = 0;
            open = 0;
            boolean partIsDue = true;
            for (int step = 0; step <= length; step++) {
                if (!partIsDue && token == SEMICOLON && open == 0) {
                    break;
                }
                partIsDue = partIsDue ? takePart() : takeSign();
                if (fault != 0) {
                    return;
                }
                advance();
            }
            putSignsAbove(0);
            realm.laws.end(law);
        }

        /** Takes what may stand where a part of an E is due; whether one is due still. */
        private boolean takePart() {
            if (token == OPEN) {
                if (open >= MOST_OPEN) {
                    fail(FAULT_TOO_MUCH);
                } else {
                    open++;
                    pushSign();
                }
                return true;
            }
            if (token == WORD_NOT && mayNegate()) {
                countKnot();
                pushSign();
                return true;
            }
            if (token != NUMBER && (token < WORD_SCALE || token > WORD_SEASON)) {
                fail(FAULT_TOKEN);
            } else if (token == NUMBER && tokenValue > MOST_NUMBER) {
                fail(FAULT_TOO_MUCH);
            } else {
                countKnot();
                realm.laws.add(token, tokenValue);
            }
            return false;
        }

        /** Takes what may stand behind a part of an E; whether another part is due then. */
        private boolean takeSign() {
            if (token == CLOSE && open > 0) {
                putSignsAbove(0);
                dropSign();
                open--;
                return false;
            }
            int level = levelOf(token);
            if (level == 0 || token == WORD_NOT) {
                fail(FAULT_TOKEN);
                return false;
            }
            if (level == levelOf(LESS)) {
                putSignsAbove(level);
                // C has one comparison: a second one can't stand behind it.
                if (topLevel() == level) {
                    fail(FAULT_TOKEN);
                    return false;
                }
            }
            putSignsAbove(level - 1);
            countKnot();
            pushSign();
            return true;
        }

        /** How tightly a sign binds; 0 for what is none, '(' among it. */
        private static int levelOf(int sign) {
            switch (sign) {
                case WORD_OR:
                    return 1;
                case WORD_AND:
                    return 2;
                case WORD_NOT:
                    return 3;
                case LESS:
                case LESS_OR_LIKE:
                case LIKE:
                case UNLIKE:
                case MORE_OR_LIKE:
                case MORE:
                    return 4;
                case PLUS:
                case MINUS:
                    return 5;
                case TIMES:
                case BY:
                    return 6;
                default:
                    return 0;
            }
        }

        private int topLevel() {
            return signCount > 0 ? levelOf(signs[signCount - 1]) : 0;
        }

        /** B is no part of a comparison or of what binds tighter. */
        private boolean mayNegate() {
            return topLevel() <= levelOf(WORD_NOT);
        }

        private void pushSign() {
            if (signCount < signs.length) {
                signs[signCount] = token;
                signCount++;
            }
        }

        private void dropSign() {
            if (signCount > 0) {
                signCount--;
            }
        }

        /** Level 0 stops at the last '(' that is open. */
        private void putSignsAbove(int level) {
            for (int k = signCount - 1; k >= 0 && levelOf(signs[k]) > level; k--) {
                realm.laws.add(signs[k], 0);
                signCount = k;
            }
        }

        private void countKnot() {
            if (realm.laws.knots >= MOST_KNOTS) {
                fail(FAULT_TOO_MUCH);
            } else {
                realm.laws.knots++;
            }
        }

        /** The first FAULT stays: what comes behind it isn't looked at. */
        private void fail(int kind) {
            if (fault == 0) {
                fault = kind;
                faultPlace = tokenPlace;
            }
        }

        /** The letters of a W that none of its kind may bear yet. */
        private int takeNewName(int bearer) {
            int letters = tokenValue;
            if (token != OWN_WORD) {
                fail(FAULT_TOKEN);
            } else if (bearer != NONE) {
                fail(FAULT_TOLD);
            }
            if (fault == 0) {
                advance();
            }
            return letters;
        }

        /** The number of the one that a W names, who must be told ahead. */
        private int takeToldName(int bearer) {
            if (token != OWN_WORD) {
                fail(FAULT_TOKEN);
            } else if (bearer == NONE) {
                fail(FAULT_UNTOLD);
            }
            if (fault == 0) {
                advance();
            }
            return bearer;
        }

        private int takeNumber(int low, int high) {
            int number = tokenValue;
            if (token != NUMBER) {
                fail(FAULT_TOKEN);
            } else if (number < low || number > high) {
                fail(FAULT_TOO_MUCH);
            }
            if (fault == 0) {
                advance();
            }
            return number;
        }

        private void advance() {
            while (place < length && (tape[place] == 10 || tape[place] == 32)) {
                place++;
            }
            tokenPlace = place;
            tokenValue = 0;
            if (place >= length) {
                token = END;
                return;
            }
            int sign = tape[place];
            if (isLetter(sign)) {
                readWord();
            } else if (isDigit(sign)) {
                readDigits();
            } else {
                place++;
                token = signOf(sign);
            }
        }

        private void readWord() {
            int letters = 0;
            while (place < length && isLetter(tape[place])) {
                int ahead = place - tokenPlace;
                if (ahead < LETTERS) {
                    letters |= (tape[place] - 'a' + 1) << (FIRST_SHIFT - LETTER_BITS * ahead);
                }
                place++;
            }
            tokenValue = letters;
            token = place - tokenPlace > LETTERS ? BAD : wordOf(letters);
        }

        private static int wordOf(int letters) {
            int word = FIRST_WORD;
            int code = 0;
            int shift = FIRST_SHIFT;
            for (int k = 0; k < WORDS.length(); k++) {
                char sign = WORDS.charAt(k);
                if (sign != ' ') {
                    code |= (sign - 'a' + 1) << shift;
                    shift -= LETTER_BITS;
                } else if (code == letters) {
                    return word;
                } else {
                    word++;
                    code = 0;
                    shift = FIRST_SHIFT;
                }
            }
            return OWN_WORD;
        }

        private void readDigits() {
            int number = 0;
            while (place < length && isDigit(tape[place])) {
                // All beyond the most that a number may be is alike.
                number = Math.min(MOST_NUMBER + 1, number * 10 + tape[place] - '0');
                place++;
            }
            tokenValue = number;
            token = NUMBER;
        }

        private int signOf(int sign) {
            switch (sign) {
                case ';':
                    return SEMICOLON;
                case '(':
                    return OPEN;
                case ')':
                    return CLOSE;
                case '+':
                    return PLUS;
                case '-':
                    return MINUS;
                case '*':
                    return TIMES;
                case '/':
                    return BY;
                case '=':
                    return LIKE;
                case '<':
                    if (takeRightBehind('=')) {
                        return LESS_OR_LIKE;
                    }
                    return takeRightBehind('>') ? UNLIKE : LESS;
                case '>':
                    return takeRightBehind('=') ? MORE_OR_LIKE : MORE;
                default:
                    return BAD;
            }
        }

        private boolean takeRightBehind(int sign) {
            if (place < length && tape[place] == sign) {
                place++;
                return true;
            }
            return false;
        }

        private static boolean isLetter(int sign) {
            return sign >= 'a' && sign <= 'z';
        }

        private static boolean isDigit(int sign) {
            return sign >= '0' && sign <= '9';
        }
    }

    /** A state that the realm of a TEXT can be in, and how it goes on from there. */
    private static final class World {
        Realm realm;
        final int[] scale = new int[MOST_REGIONS];
        final int[] yielded = new int[MOST_REGIONS];
        /** Of each JOIN 1 or 0. */
        final int[] torn = new int[MOST_JOINS];
        final int[] home = new int[MOST_PEOPLE];
        final int[] called = new int[MOST_PEOPLE];
        final int[] tooBig = new int[MOST_PEOPLE];
        int season;
        /** By REGION, kept with torn and home: every VALUE of a law asks for them. */
        final int[] tears = new int[MOST_REGIONS];
        final int[] crowd = new int[MOST_REGIONS];
        int mode = AS_IT_IS;
        int mute;
        private final int[] votes = new int[MOST_REGIONS];
        private final long[] names = new long[NAMES];

        World(Realm told) {
            realm = told;
            Arrays.fill(called, UNCALLED);
        }

        void start(Realm told) {
            realm = told;
            System.arraycopy(told.scale, 0, scale, 0, MOST_REGIONS);
            System.arraycopy(told.region, 0, home, 0, MOST_PEOPLE);
            Arrays.fill(yielded, 0);
            Arrays.fill(tooBig, 0);
            Arrays.fill(called, UNCALLED);
            Arrays.fill(crowd, 0);
            for (int person = 0; person < told.people; person++) {
                crowd[home[person]]++;
            }
            season = 0;
            mode = AS_IT_IS;
            tearJoins();
        }

        void copy(World other) {
            realm = other.realm;
            System.arraycopy(other.scale, 0, scale, 0, MOST_REGIONS);
            System.arraycopy(other.yielded, 0, yielded, 0, MOST_REGIONS);
            System.arraycopy(other.tears, 0, tears, 0, MOST_REGIONS);
            System.arraycopy(other.crowd, 0, crowd, 0, MOST_REGIONS);
            System.arraycopy(other.torn, 0, torn, 0, MOST_JOINS);
            System.arraycopy(other.home, 0, home, 0, MOST_PEOPLE);
            System.arraycopy(other.called, 0, called, 0, MOST_PEOPLE);
            System.arraycopy(other.tooBig, 0, tooBig, 0, MOST_PEOPLE);
            season = other.season;
            mode = AS_IT_IS;
        }

        void settle(int person, int region) {
            crowd[home[person]]--;
            home[person] = region;
            crowd[region]++;
        }

        void tearJoins() {
            int tear = mode == TEAR_IS_LOOSE ? LOOSEST_TEAR : realm.tear;
            Arrays.fill(tears, 0);
            for (int k = 0; k < realm.joins; k++) {
                int one = realm.joinOne[k];
                int other = realm.joinOther[k];
                torn[k] = Math.abs(scale[one] - scale[other]) > tear ? 1 : 0;
                tears[one] += torn[k];
                tears[other] += torn[k];
            }
        }

        /** One SEASON, whole. */
        void pass() {
            stretch();
            reap();
            close();
        }

        /** Steps 1 and 2 of a SEASON; whether a SCALE was changed. */
        boolean stretch() {
            Arrays.fill(votes, 0);
            for (int person = 0; person < realm.people; person++) {
                votes[home[person]] += weightOf(person) * voteOf(person);
            }
            boolean changed = false;
            for (int region = 0; region < realm.regions; region++) {
                int next = stretched(scale[region], votes[region]);
                changed = changed || next != scale[region];
                scale[region] = next;
            }
            tearJoins();
            return changed;
        }

        /** Steps 3 and 4, on which no SCALE depends. */
        private void reap() {
            for (int region = 0; region < realm.regions; region++) {
                yielded[region] += yieldOf(region);
            }
            for (int person = 0; person < realm.people; person++) {
                if (realm.size[person] > scale[home[person]]) {
                    tooBig[person]++;
                }
            }
        }

        /** Step 5, and the next SEASON. */
        void close() {
            Arrays.fill(called, UNCALLED);
            season++;
        }

        int weightOf(int person) {
            return mode == ALL_WEIGH_ONE ? 1 : realm.weight[person];
        }

        int voteOf(int person) {
            if (mode == NOBODY_VOTES || (mode == ONE_IS_MUTE && person == mute)) {
                return 0;
            }
            if (called[person] != UNCALLED) {
                return called[person];
            }
            if (mode == ALL_WANT_LARGER) {
                return 1;
            }
            int region = home[person];
            int here = scale[region];
            int gained = gainOf(person, region, here);
            if (here < MOST_SCALE && gainOf(person, region, here + 1) > gained) {
                return 1;
            }
            return here > 1 && gainOf(person, region, here - 1) > gained ? -1 : 0;
        }

        int voteIn(int region) {
            int sum = 0;
            for (int person = 0; person < realm.people; person++) {
                if (home[person] == region) {
                    sum += weightOf(person) * voteOf(person);
                }
            }
            return sum;
        }

        /** GAIN of a PERSON, if it were in this REGION by this SCALE and all else were as it is. */
        int gainOf(int person, int region, int byScale) {
            int size = realm.size[person];
            nameRegion(region, byScale, tears[region]);
            names[1] = size;
            long value = realm.laws.work(LAW_GAIN, names);
            return value == ERROR ? 9 - Math.abs(byScale - size) : within(value, -99, 99);
        }

        int yieldOf(int region) {
            return yieldBy(region, scale[region], tears[region]);
        }

        int yieldBy(int region, int byScale, int byTears) {
            nameRegion(region, byScale, byTears);
            long value = realm.laws.work(LAW_YIELD, names);
            return value == ERROR ? realm.area[region] * byScale / 3 : within(value, 0, 9999);
        }

        /** How many SEASONS it takes to cross a JOIN from one of its REGIONS. */
        int timeAcross(int join, int from) {
            nameWay(join, from);
            long value = realm.laws.work(LAW_WAY, names);
            return value == ERROR ? 1 + realm.length[join] * scale[from] / 20 : within(value, 1, 9);
        }

        long gainLaw(int person) {
            int region = home[person];
            nameRegion(region, scale[region], tears[region]);
            names[1] = realm.size[person];
            return realm.laws.work(LAW_GAIN, names);
        }

        long yieldLaw(int region) {
            nameRegion(region, scale[region], tears[region]);
            return realm.laws.work(LAW_YIELD, names);
        }

        long wayLaw(int join) {
            nameWay(join, realm.joinOne[join]);
            return realm.laws.work(LAW_WAY, names);
        }

        /** The NAMES in the order in which WORDS tells them: scale size area length crowd torn season. */
        private void nameRegion(int region, int byScale, int byTears) {
            names[0] = byScale;
            names[1] = 0;
            names[2] = realm.area[region];
            names[3] = 0;
            names[4] = crowd[region];
            names[5] = byTears;
            names[6] = season;
        }

        private void nameWay(int join, int from) {
            nameRegion(from, scale[from], tears[from]);
            names[2] = 0;
            names[3] = realm.length[join];
        }

        /** GAPS, if one REGION's SCALE were a step off; NONE: as it is. */
        int gapsWith(int region, int step) {
            int sum = 0;
            for (int k = 0; k < realm.joins; k++) {
                int one = realm.joinOne[k];
                int other = realm.joinOther[k];
                int more = (one == region ? step : 0) - (other == region ? step : 0);
                sum += Math.abs(scale[one] - scale[other] + more);
            }
            return sum;
        }

        int scalesInSum() {
            int sum = 0;
            for (int region = 0; region < realm.regions; region++) {
                sum += scale[region];
            }
            return sum;
        }

        int tornInAll() {
            int sum = 0;
            for (int join = 0; join < realm.joins; join++) {
                sum += torn[join];
            }
            return sum;
        }

        int yieldedInAll() {
            int sum = 0;
            for (int region = 0; region < realm.regions; region++) {
                sum += yielded[region];
            }
            return sum;
        }

        int tooBigInAll() {
            int sum = 0;
            for (int person = 0; person < realm.people; person++) {
                sum += tooBig[person];
            }
            return sum;
        }

        int calledInAll() {
            int sum = 0;
            for (int person = 0; person < realm.people; person++) {
                sum += called[person] == UNCALLED ? 0 : 1;
            }
            return sum;
        }
    }

    /** What was done by call since the last SEASON, the latest MOST_UNDONE of it. */
    private static final class Past {
        static final int CANVASS = 0;
        static final int MOVE = 1;
        static final int DECREE = 2;

        int size;
        /** What takeLatest() took: what was done, to whom, and what was so ahead of it. */
        int kind;
        int which;
        int was;
        private final int[] kinds = new int[MOST_UNDONE];
        private final int[] whiches = new int[MOST_UNDONE];
        private final int[] ahead = new int[MOST_UNDONE];

        void clear() {
            size = 0;
        }

        void add(int kindDone, int whichOne, int wasAhead) {
            if (size >= MOST_UNDONE) {
                size = MOST_UNDONE - 1;
                System.arraycopy(kinds, 1, kinds, 0, size);
                System.arraycopy(whiches, 1, whiches, 0, size);
                System.arraycopy(ahead, 1, ahead, 0, size);
            }
            kinds[size] = kindDone;
            whiches[size] = whichOne;
            ahead[size] = wasAhead;
            size++;
        }

        boolean takeLatest() {
            if (size <= 0) {
                return false;
            }
            size--;
            kind = kinds[size];
            which = whiches[size];
            was = ahead[size];
            return true;
        }
    }

    /** STONES and STRIKES, numbered together. */
    private static final class Stones {
        static final int ALL = -1;
        static final int BELOW = 0;
        static final int AT_LEAST = 1;
        static final int STRIKE = 2;

        int size;
        int knownBy = ALL;
        private final int[] kinds = new int[MOST_STONES];
        private final int[] seasons = new int[MOST_STONES];
        /** The REGION; of a STRIKE the STONE that it strikes. */
        private final int[] whiches = new int[MOST_STONES];
        private final int[] scales = new int[MOST_STONES];
        private final boolean[] struck = new boolean[MOST_STONES];

        void clear() {
            size = 0;
            knownBy = ALL;
        }

        int knownCount() {
            return knownBy == ALL ? size : Math.min(size, knownBy);
        }

        int add(int kind, int behind, int which, int scale) {
            if (size >= MOST_STONES) {
                return NONE;
            }
            kinds[size] = kind;
            seasons[size] = behind;
            whiches[size] = which;
            scales[size] = scale;
            size++;
            return size - 1;
        }

        /** Finds which ones are struck: a STRIKE is behind what it strikes, so the last one is sure. */
        void weigh() {
            for (int k = 0; k < MOST_STONES; k++) {
                struck[k] = false;
            }
            for (int k = knownCount() - 1; k >= 0; k--) {
                if (kinds[k] == STRIKE && !struck[k]) {
                    struck[whiches[k]] = true;
                }
            }
        }

        /** Whether all that are KNOWN are so in a world that starts from the TEXT. */
        boolean agreeWith(World world) {
            int last = lastSeason();
            for (int behind = 1; behind <= last; behind++) {
                world.stretch();
                world.close();
                for (int k = 0; k < knownCount(); k++) {
                    if (counts(k) && seasons[k] == behind && !isSo(k, world)) {
                        return false;
                    }
                }
            }
            return true;
        }

        private int lastSeason() {
            int last = 0;
            for (int k = 0; k < knownCount(); k++) {
                if (counts(k)) {
                    last = Math.max(last, seasons[k]);
                }
            }
            return last;
        }

        private boolean counts(int k) {
            return kinds[k] != STRIKE && !struck[k];
        }

        private boolean isSo(int k, World world) {
            boolean atLeast = world.scale[whiches[k]] >= scales[k];
            return atLeast == (kinds[k] == AT_LEAST);
        }
    }

    /** What is asked of the votes in one REGION. */
    private static final class Ballot {
        private final int[] votes = new int[MOST_PEOPLE];

        int setsDecidedBy(World world, int person) {
            int region = world.home[person];
            int weight = world.weightOf(person);
            int others = bitsIn(world, region) & ~(1 << person);
            int sets = 0;
            for (int set = 0; set <= others; set++) {
                if ((set & ~others) == 0) {
                    int sum = weightIn(world, set) - weightIn(world, others & ~set);
                    if (sum + weight > 0 && sum - weight <= 0) {
                        sets++;
                    }
                }
            }
            return sets;
        }

        /** The fewest to be CANVASSED to a vote, so that the REGION's VOTE is that way; bits. */
        int fewest(World world, int region, int way) {
            int people = bitsIn(world, region);
            for (int person = 0; person < world.realm.people; person++) {
                votes[person] = world.voteOf(person);
            }
            int found = NOT_SO;
            int most = MOST_PEOPLE + 1;
            for (int set = 0; set <= people; set++) {
                if ((set & ~people) == 0 && Integer.bitCount(set) < most && voteWith(world, people, set, way) * way > 0) {
                    found = set;
                    most = Integer.bitCount(set);
                }
            }
            return found;
        }

        private int voteWith(World world, int people, int set, int way) {
            int sum = 0;
            for (int person = 0; person < world.realm.people; person++) {
                if ((people >> person & 1) == 1) {
                    sum += world.weightOf(person) * ((set >> person & 1) == 1 ? way : votes[person]);
                }
            }
            return sum;
        }

        /** The RESTS of a BARGAIN: bit 2 * a + b stands for the first one's vote a and the second one's b. */
        int restsOf(World world, int one, int other) {
            int rests = 0;
            for (int bids = 0; bids < 4; bids++) {
                boolean oneRests = gainBy(world, one, one, other, bids) >= gainBy(world, one, one, other, bids ^ 2);
                boolean otherRests = gainBy(world, other, one, other, bids) >= gainBy(world, other, one, other, bids ^ 1);
                if (oneRests && otherRests) {
                    rests |= 1 << bids;
                }
            }
            return rests;
        }

        private int gainBy(World world, int whose, int one, int other, int bids) {
            int region = world.home[whose];
            int sum = world.weightOf(one) * ((bids & 2) == 0 ? 1 : -1);
            sum += world.weightOf(other) * ((bids & 1) == 0 ? 1 : -1);
            for (int person = 0; person < world.realm.people; person++) {
                if (person != one && person != other && world.home[person] == region) {
                    sum += world.weightOf(person) * world.voteOf(person);
                }
            }
            return world.gainOf(whose, region, stretched(world.scale[region], sum));
        }

        private static int bitsIn(World world, int region) {
            int bits = 0;
            for (int person = 0; person < world.realm.people; person++) {
                if (world.home[person] == region) {
                    bits |= 1 << person;
                }
            }
            return bits;
        }

        private static int weightIn(World world, int people) {
            int sum = 0;
            for (int person = 0; person < world.realm.people; person++) {
                if ((people >> person & 1) == 1) {
                    sum += world.weightOf(person);
                }
            }
            return sum;
        }
    }

    /** BEST: all SCALES of the first REGIONS are tried. */
    private static final class Best {
        static final int MOST_FREE = 4;

        int most;
        final int[] found = new int[MOST_REGIONS];
        private int leastSum;
        private final int[] scales = new int[MOST_REGIONS];
        private final int[] tears = new int[MOST_REGIONS];
        /** Yields by REGION, SCALE and how many are TORN, so that each E is worked out once. */
        private final int[] yields = new int[MOST_REGIONS * (MOST_SCALE + 1) * MOST_REGIONS];

        void seek(World world) {
            int free = Math.min(MOST_FREE, world.realm.regions);
            fillYields(world, free);
            System.arraycopy(world.scale, 0, scales, 0, MOST_REGIONS);
            int tries = 1;
            for (int region = 0; region < free; region++) {
                scales[region] = 1;
                tries *= MOST_SCALE;
            }
            most = -1;
            leastSum = 0;
            for (int k = 0; k < tries; k++) {
                tryScales(world.realm);
                nextScales(free);
            }
        }

        private void fillYields(World world, int free) {
            for (int region = 0; region < world.realm.regions; region++) {
                for (int scale = 1; scale <= MOST_SCALE; scale++) {
                    if (region < free || scale == world.scale[region]) {
                        for (int torn = 0; torn < MOST_REGIONS; torn++) {
                            yields[cellOf(region, scale, torn)] = world.yieldBy(region, scale, torn);
                        }
                    }
                }
            }
        }

        private static int cellOf(int region, int scale, int torn) {
            return (region * (MOST_SCALE + 1) + scale) * MOST_REGIONS + torn;
        }

        private void tryScales(Realm realm) {
            Arrays.fill(tears, 0);
            for (int k = 0; k < realm.joins; k++) {
                int one = realm.joinOne[k];
                int other = realm.joinOther[k];
                if (Math.abs(scales[one] - scales[other]) > realm.tear) {
                    tears[one]++;
                    tears[other]++;
                }
            }
            int all = 0;
            int sum = 0;
            for (int region = 0; region < realm.regions; region++) {
                all += yields[cellOf(region, scales[region], tears[region])];
                sum += scales[region];
            }
            if (all > most || (all == most && sum < leastSum)) {
                most = all;
                leastSum = sum;
                System.arraycopy(scales, 0, found, 0, MOST_REGIONS);
            }
        }

        /** The last REGION turns fastest: so of several the first by REGIONS is met first. */
        private void nextScales(int free) {
            for (int region = free - 1; region >= 0; region--) {
                if (scales[region] < MOST_SCALE) {
                    scales[region]++;
                    return;
                }
                scales[region] = 1;
            }
        }
    }

    /** WAY and SET OUT: where one can be behind each SEASON. */
    private static final class Travel {
        /** By SEASON and REGION the latest SEASON behind which one can set out and be there then; NONE: by none. */
        private final int[] latest = new int[(MOST_AHEAD + 1) * MOST_REGIONS];

        int latestOut(int behind, int region) {
            int cell = behind * MOST_REGIONS + region;
            return cell >= 0 && cell < latest.length ? latest[cell] : NONE;
        }

        /** How soon one who sets out behind any of these SEASONS is there; the world is used up. */
        int arrive(World world, int one, int other, int firstOut, int lastOut) {
            Arrays.fill(latest, NONE);
            for (int behind = 0; behind <= MOST_AHEAD; behind++) {
                if (behind >= firstOut && behind <= lastOut) {
                    reach(behind, one, behind);
                }
                if (latestOut(behind, other) != NONE) {
                    return behind;
                }
                for (int region = 0; region < world.realm.regions; region++) {
                    reach(behind + 1, region, latestOut(behind, region));
                }
                for (int join = 0; join < world.realm.joins; join++) {
                    if (world.torn[join] == 0) {
                        cross(world, behind, join, world.realm.joinOne[join], world.realm.joinOther[join]);
                        cross(world, behind, join, world.realm.joinOther[join], world.realm.joinOne[join]);
                    }
                }
                world.stretch();
                world.close();
            }
            return NOT_SO;
        }

        private void cross(World world, int behind, int join, int from, int to) {
            int out = latestOut(behind, from);
            if (out != NONE) {
                reach(behind + world.timeAcross(join, from), to, out);
            }
        }

        private void reach(int behind, int region, int out) {
            int cell = behind * MOST_REGIONS + region;
            if (behind <= MOST_AHEAD && latest[cell] < out) {
                latest[cell] = out;
            }
        }
    }

    /** LIVE: the REGIONS take sets of PEOPLE, one behind another. */
    private static final class Living {
        private static final long NEVER = Long.MIN_VALUE;
        private static final int SETS = 256;
        /** As many as there are ways to spread eight over six. */
        private static final long SPREADS = 1679616L;

        /** By set of PEOPLE the most that they have in the REGIONS so far. */
        private final long[] most = new long[SETS];
        /** By set of PEOPLE what they have in the REGION at hand. */
        private final long[] share = new long[SETS];

        int homeOf(World world, int person) {
            int all = (1 << world.realm.people) - 1;
            if (all < 0 || all >= SETS) {
                return NOT_SO;
            }
            Arrays.fill(most, NEVER);
            most[0] = 0;
            for (int region = 0; region < world.realm.regions; region++) {
                fillShare(world, region, all);
                takeIn(world.realm.homes[region], all);
            }
            if (most[all] == NEVER) {
                return NOT_SO;
            }
            long spread = Math.floorMod(-most[all], SPREADS);
            for (int k = MOST_PEOPLE - 1; k > person; k--) {
                spread /= MOST_REGIONS;
            }
            return (int) (spread % MOST_REGIONS);
        }

        /**
         * GAIN counts above all; below it each spread has its rank by PEOPLE, written in REGIONS as digits, so that
         * no two are worth the same and the worth tells the spread.
         */
        private void fillShare(World world, int region, int all) {
            share[0] = 0;
            for (int person = 0; person < world.realm.people; person++) {
                int bit = 1 << person;
                long worth = world.gainOf(person, region, world.scale[region]) * SPREADS - region * placeOf(person);
                for (int set = bit; set < 2 * bit && set <= all; set++) {
                    share[set] = share[set - bit] + worth;
                }
            }
        }

        /** Larger sets come first: what they are made of is still without this REGION. */
        private void takeIn(int homes, int all) {
            for (int set = all; set > 0; set--) {
                for (int part = set; part > 0; part = (part - 1) & set) {
                    long rest = most[set & ~part];
                    if (rest != NEVER && Integer.bitCount(part) <= homes) {
                        most[set] = Math.max(most[set], rest + share[part]);
                    }
                }
            }
        }

        private static long placeOf(int person) {
            long place = 1;
            for (int k = person + 1; k < MOST_PEOPLE; k++) {
                place *= MOST_REGIONS;
            }
            return place;
        }
    }

    /** The numbers by which some are CANVASSED by chance. */
    private static final class Draws {
        long last;

        void canvassSome(World world) {
            for (int person = 0; person < world.realm.people; person++) {
                if (world.called[person] == UNCALLED && next() % 100 < 20) {
                    world.called[person] = next() % 3 - 1;
                }
            }
        }

        private int next() {
            last = (last * 1103515245L + 12345L) & 0x7fffffffL;
            return (int) (last / 65536L);
        }
    }
}
