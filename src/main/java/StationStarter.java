import java.util.Arrays;
import java.util.NoSuchElementException;

/**
 * A starter for a station's control modules. A text is fed sign by sign and read as a STATION; demands then
 * bring up the units that they ask for, and what came up is closed in reverse.
 *
 * A text is turned into one row of instructions ({@link Station}), which a machine with its own stack runs
 * ({@link Machine}): starts may nest far deeper than Java calls should.
 */
public final class StationStarter {
    public static final int NONE = -1;

    private static final int MOST_SIGNS = 4000;
    private static final int MOST_DEVICES = 24;
    private static final int MOST_UNITS = 24;
    private static final int MOST_DEMANDS = 20;
    private static final int MOST_ITEMS = 8;
    private static final int MOST_ROLES = 6;
    private static final int MOST_WITHIN = 10;
    private static final int MOST_NUMBER = 999999999;
    private static final int MOST_EDITION = 30;
    private static final int MOST_PLANS = 40;
    private static final int MOST_BEATS = 1000;
    private static final int MOST_NOTED = 200;
    private static final int MOST_UP = MOST_UNITS * (MOST_EDITION + 1);
    private static final int MOST_STEPS = 5000;
    private static final int MOST_STEPS_CLOSING = 2000;
    private static final int MOST_STEPS_IN_ALL = 100000;

    // Kinds of tokens. A sign's kind is its own code; a keyword's is FIRST_KEYWORD and its rank in KEYWORDS.
    private static final int END_OF_TEXT = 0;
    private static final int NO_TOKEN = 1;
    private static final int NAME = 2;
    private static final int NUMBER = 3;
    private static final int FIRST_KEYWORD = 128;
    private static final int DEVICE = 128;
    private static final int FROM = 129;
    private static final int TO = 130;
    private static final int PACE = 131;
    private static final int ACTING = 132;
    private static final int ROLE = 133;
    private static final int LIKE = 134;
    private static final int MODULE = 135;
    private static final int ON = 136;
    private static final int HAS = 137;
    private static final int DEMAND = 138;
    private static final int CLOSING = 139;
    private static final int SETTING = 140;
    private static final int STATIC = 141;
    private static final int TOUCH = 142;
    private static final int ORDER = 143;
    private static final int CHECK = 144;
    private static final int FAIL = 145;
    private static final int IF = 146;
    private static final int ELSE = 147;
    private static final int WHILE = 148;
    private static final int TRY = 149;
    private static final int OF = 150;
    private static final int KIND = 151;
    private static final int BEATS = 152;
    private static final int KEYWORD_COUNT = 25;
    private static final String KEYWORDS =
            "device from to pace acting role like module on has demand closing setting static touch order check fail if else while try of kind beats ";
    private static final String SIGNS = "{}(),;=<+-*/%.";
    private static final int MOST_WORD = 12;
    private static final int MOST_DIGITS = 9;
    // 26 letters and 10 digits, and 0 for no sign: twelve of them fit into a long.
    private static final int WORD_BASE = 37;

    // FAULTS of texts.
    private static final int CANNOT_STAND = 1;
    private static final int NOT_TOLD = 2;
    private static final int TOLD_ALREADY = 3;
    private static final int BAD_NUMBER = 4;
    private static final int TOO_MANY = 5;
    private static final int WRONG_SORT = 6;

    // STATES of units.
    private static final int DOWN = 0;
    private static final int COMING_UP = 1;
    private static final int UP = 2;
    private static final int FAILED = 3;
    private static final int CLOSED = 4;

    // Kinds of faults of runs.
    private static final int FAULT_CHECK = 11;
    private static final int FAULT_REFUSED = 12;
    private static final int FAULT_ZERO = 13;
    private static final int FAULT_PLANNED = 14;
    private static final int FAULT_START = 20;
    private static final int FAULT_BEFORE = 21;
    private static final int NO_STEPS = 22;

    // Instructions. The signs of sums, products and comparisons are instructions by their own codes.
    private static final int DO_STEP = 1;
    private static final int DO_NUMBER = 2;
    private static final int DO_SETTING = 3;
    private static final int DO_STATIC = 4;
    private static final int DO_STORE = 5;
    private static final int DO_TOUCH = 6;
    private static final int DO_BRING = 7;
    private static final int DO_PLANNED = 8;
    private static final int DO_NEGATE = 9;
    private static final int DO_OF = 10;
    private static final int DO_KIND = 11;
    private static final int DO_BEATS = 12;
    private static final int DO_ORDER = 13;
    private static final int DO_CHECK = 14;
    private static final int DO_FAIL = 15;
    private static final int DO_JUMP = 16;
    private static final int DO_UNLESS = 17;
    private static final int DO_TRY = 18;
    private static final int DO_LEAVE = 19;
    private static final int DO_END = 20;
    // What waits for the text's end: their first operand is the UNITNAME's token, the second the unit that names it.
    private static final int LATER_READ = 21;
    private static final int LATER_STORE = 22;
    private static final int LATER_TOUCH = 23;
    private static final int OPERAND_MASK = 0xFFFFFF;

    private static final int MOST_OPEN = MOST_UNITS + 1;
    // Three operands wait at most in each of the PARTS within one another.
    private static final int MOST_VALUES = MOST_OPEN * (3 * (MOST_WITHIN + 1) + 1);
    private static final int MOST_TURNS = 1000000;

    private final Tape tape = new Tape();
    private final Reader reader = new Reader(tape);
    private final State state = new State();
    private final State kept = new State();
    private final Books books = new Books();
    private final Machine machine = new Machine(state, books);
    private final int[] foreseenUnits = new int[MOST_UNITS];
    private Station station = new Station(0);
    private int foreseenCount = 0;
    private int endedFirst = 0;
    private int endedSecond = 0;
    private int latestSteps = 0;
    private boolean shut = false;

    public StationStarter() {
    }

    public int feed(long a, long b, long c) {
        tape.addBytes(a);
        tape.addBytes(b);
        tape.addBytes(c);
        return tape.size;
    }

    public int station() {
        tape.scan();
        Station made = null;
        try {
            made = reader.make();
        } catch (IllegalStateException refused) {
            made = null;
        }
        tape.empty();
        if (made == null) {
            return reader.fault;
        }
        station = made;
        state.reset(made);
        books.empty();
        foreseenCount = 0;
        endedFirst = 0;
        endedSecond = 0;
        latestSteps = 0;
        shut = false;
        return 0;
    }

    public int named(int sort) {
        tape.scan();
        boolean oneWord = tape.tokens == 2 && tape.kindAt(0) == NAME;
        long word = tape.valueAt(0);
        tape.empty();
        if (!oneWord) {
            return NONE;
        }
        switch (sort) {
            case 0:
                return rankOf(word, station.deviceNames, station.devices);
            case 1:
                return rankOf(word, station.unitNames, station.units);
            case 2:
                return rankOf(word, station.demandNames, station.demands);
            default:
                return NONE;
        }
    }

    public int demand(int d, int n) {
        if (!canDemand(d, n)) {
            return 4;
        }
        if (shut) {
            return 5;
        }
        machine.runDemand(station, d, n);
        endedFirst = machine.faultFirst;
        endedSecond = machine.faultSecond;
        latestSteps = machine.used;
        if (machine.outOfSteps) {
            return 6;
        }
        switch (endedFirst) {
            case 0:
                return 0;
            case FAULT_START:
                return 1;
            case FAULT_BEFORE:
                return 2;
            default:
                return 3;
        }
    }

    public int ended(int i) {
        if (i == 0) {
            return endedFirst;
        }
        return i == 1 ? endedSecond : 0;
    }

    public boolean plan(int unit, int edition) {
        if (!isUnit(unit) || edition < 0 || edition > MOST_EDITION) {
            return false;
        }
        if (state.isPlanned(unit, edition)) {
            return true;
        }
        if (state.planned >= MOST_PLANS) {
            return false;
        }
        state.addPlan(unit, edition);
        return true;
    }

    public void clear() {
        state.dropPlans();
    }

    public int heal(int unit) {
        if (!isUnit(unit) || shut) {
            return NONE;
        }
        for (int u = 0; u < station.units; u++) {
            if (isHealedWith(u, unit) && state.editions[u] >= MOST_EDITION) {
                return NONE;
            }
        }
        int healed = 0;
        for (int u = 0; u < station.units; u++) {
            if (isHealedWith(u, unit)) {
                state.renew(u);
                healed++;
            }
        }
        return healed;
    }

    public int close() {
        if (shut) {
            return NONE;
        }
        int many = 0;
        for (int i = books.ups - 1; i >= 0; i--) {
            int u = books.upAt(i, 0);
            // Rows of older editions come behind the one that is up: the unit is closed by then.
            if (isUnit(u) && state.stages[u] == UP) {
                int kind = machine.runClosing(station, u);
                state.stages[u] = CLOSED;
                books.addClosed(u, kind);
                many++;
            }
        }
        shut = true;
        return many;
    }

    public int beat(int n) {
        if (n < 0 || n > MOST_BEATS) {
            return NONE;
        }
        for (int d = 0; d < station.devices; d++) {
            long way = (long) state.goals[d] - state.places[d];
            long most = (long) station.paces[d] * n;
            long move = Math.max(-most, Math.min(most, way));
            state.places[d] = (int) (state.places[d] + move);
        }
        state.beat += n;
        return state.beat;
    }

    public int foresee(int d, int n) {
        if (!canDemand(d, n) || shut) {
            return NONE;
        }
        kept.copy(state);
        int ups = books.ups;
        int halves = books.halves;
        int orders = books.orders;
        machine.runDemand(station, d, n);
        foreseenCount = 0;
        for (int i = ups; i < books.ups && foreseenCount < MOST_UNITS; i++) {
            foreseenUnits[foreseenCount] = books.upAt(i, 0);
            foreseenCount++;
        }
        state.copy(kept);
        books.cut(ups, halves, orders);
        return foreseenCount;
    }

    public int foreseen(int i) {
        return i < 0 || i >= foreseenCount ? NONE : foreseenUnits[i];
    }

    public int unit(int u, int what) throws NoSuchElementException {
        if (!isUnit(u)) {
            throw new NoSuchElementException("no such unit");
        }
        Unit told = station.told[u];
        switch (what) {
            case 0:
                return state.stages[u];
            case 1:
                return state.editions[u];
            case 2:
                return told.module ? 1 : 0;
            case 3:
                return told.acting ? 1 : 0;
            case 4:
                return told.base;
            case 5:
                return told.roleCount;
            case 6:
                return told.statics;
            case 7:
                return told.items - told.statics;
            default:
                throw new NoSuchElementException("nothing such of a unit");
        }
    }

    public int read(int u, int k) throws NoSuchElementException {
        if (!isUnit(u)) {
            throw new NoSuchElementException("no such unit");
        }
        if (k < 0 || k >= station.told[u].statics) {
            throw new NoSuchElementException("no such static");
        }
        return state.stages[u] == DOWN ? 0 : state.statics[u * MOST_ITEMS + k];
    }

    public int cause(int u, int i) {
        if (!isUnit(u) || i < 0 || i > 1) {
            return 0;
        }
        return i == 0 ? state.causeFirst[u] : state.causeSecond[u];
    }

    public int need(int u, int i) {
        if (!isUnit(u) || i < 0 || i >= state.needCounts[u]) {
            return NONE;
        }
        return state.needs[u * MOST_UNITS + i];
    }

    public int leans(int u, int on) {
        if (!isUnit(u) || !isUnit(on)) {
            return NONE;
        }
        return station.leaning(u, on) ? 1 : 0;
    }

    public int up(int i, int what) {
        return books.upAt(i, what);
    }

    public int half(int i, int what) {
        return books.halfAt(i, what);
    }

    public int order(int i, int what) {
        return books.orderAt(i, what);
    }

    public int closed(int i, int what) {
        return books.closedAt(i, what);
    }

    public int device(int d, int what) throws NoSuchElementException {
        if (d < 0 || d >= station.devices) {
            throw new NoSuchElementException("no such device");
        }
        switch (what) {
            case 0:
                return state.places[d];
            case 1:
                return state.goals[d];
            default:
                throw new NoSuchElementException("nothing such of a device");
        }
    }

    public int count(int what) {
        switch (what) {
            case 0:
                return station.devices;
            case 1:
                return station.units;
            case 2:
                return station.demands;
            case 3:
                return state.unitsAt(UP);
            case 4:
                return state.unitsAt(FAILED);
            case 5:
                return books.halves;
            case 6:
                return books.orders;
            case 7:
                return books.ups;
            case 8:
                return state.beat;
            case 9:
                return machine.stepsInAll;
            case 10:
                return latestSteps;
            case 11:
                return shut ? 1 : 0;
            case 12:
                return state.planned;
            case 13:
                return tape.size;
            default:
                return NONE;
        }
    }

    private boolean isUnit(int u) {
        return u >= 0 && u < station.units;
    }

    private boolean canDemand(int d, int n) {
        return d >= 0 && d < station.demands && n >= 1 && n <= MOST_STEPS;
    }

    private boolean isHealedWith(int u, int unit) {
        return u == unit || station.leaning(u, unit);
    }

    private static int rankOf(long name, long[] names, int size) {
        for (int i = 0; i < size && i < names.length; i++) {
            if (names[i] == name) {
                return i;
            }
        }
        return NONE;
    }

    /** The signs that were fed, and the tokens that they are. */
    private static final class Tape {
        private final char[] signs = new char[MOST_SIGNS];
        private final int[] kinds = new int[MOST_SIGNS + 1];
        private final int[] places = new int[MOST_SIGNS + 1];
        private final long[] values = new long[MOST_SIGNS + 1];
        private final long[] keywords = new long[KEYWORD_COUNT];
        private int size = 0;
        private int tokens = 0;

        Tape() {
            int rank = 0;
            long word = 0;
            for (int i = 0; i < KEYWORDS.length(); i++) {
                char sign = KEYWORDS.charAt(i);
                if (sign != ' ') {
                    word = word * WORD_BASE + wordSign(sign);
                } else if (rank < KEYWORD_COUNT) {
                    keywords[rank] = word;
                    rank++;
                    word = 0;
                }
            }
        }

        void addBytes(long row) {
            for (int shift = 56; shift >= 0; shift -= 8) {
                int sign = (int) (row >> shift) & 255;
                boolean known = sign == 10 || sign >= 32 && sign <= 126;
                if (known && size < MOST_SIGNS) {
                    signs[size] = (char) sign;
                    size++;
                }
            }
        }

        void empty() {
            size = 0;
        }

        void scan() {
            tokens = 0;
            int from = 0;
            for (int turn = 0; turn < MOST_SIGNS && from < size; turn++) {
                char sign = signs[from];
                if (isLetter(sign)) {
                    from = scanWord(from);
                } else if (isDigit(sign)) {
                    from = scanNumber(from);
                } else {
                    if (sign != ' ' && sign != '\n') {
                        addToken(SIGNS.indexOf(sign) >= 0 ? sign : NO_TOKEN, from, 0);
                    }
                    from++;
                }
            }
            addToken(END_OF_TEXT, size, 0);
        }

        private int scanWord(int from) {
            long word = 0;
            int to = from;
            while (to < size && (isLetter(signs[to]) || isDigit(signs[to]))) {
                word = word * WORD_BASE + wordSign(signs[to]);
                to++;
            }
            if (to - from > MOST_WORD) {
                addToken(NO_TOKEN, from, 0);
                return to;
            }
            int rank = rankOf(word, keywords, KEYWORD_COUNT);
            addToken(rank == NONE ? NAME : FIRST_KEYWORD + rank, from, word);
            return to;
        }

        private int scanNumber(int from) {
            long number = 0;
            int to = from;
            while (to < size && isDigit(signs[to])) {
                number = number * 10 + (signs[to] - '0');
                to++;
            }
            addToken(to - from > MOST_DIGITS ? NO_TOKEN : NUMBER, from, number);
            return to;
        }

        private void addToken(int kind, int place, long value) {
            if (tokens < kinds.length) {
                kinds[tokens] = kind;
                places[tokens] = place;
                values[tokens] = value;
                tokens++;
            }
        }

        int kindAt(int token) {
            return token < 0 || token >= tokens ? END_OF_TEXT : kinds[token];
        }

        long valueAt(int token) {
            return token < 0 || token >= tokens ? 0 : values[token];
        }

        private static boolean isLetter(char sign) {
            return sign >= 'a' && sign <= 'z';
        }

        private static boolean isDigit(char sign) {
            return sign >= '0' && sign <= '9';
        }

        private static int wordSign(char sign) {
            return isLetter(sign) ? sign - 'a' + 1 : sign - '0' + 27;
        }
    }

    /** A module or a role as it was told. */
    private static final class Unit {
        private final boolean module;
        private final boolean acting;
        private final int[] roles = new int[MOST_ROLES];
        private final long[] names = new long[MOST_ITEMS];
        // A setting's number, or a static's rank.
        private final int[] numbers = new int[MOST_ITEMS];
        private final boolean[] areStatic = new boolean[MOST_ITEMS];
        private int base = NONE;
        private int roleCount = 0;
        private int items = 0;
        private int statics = 0;
        // Where a NAME is looked for, this unit first.
        private int[] search = new int[0];
        // A role and those that it is like, or a module's roles so, in the order in which they are touched.
        private int[] climb = new int[0];
        private int start = 0;
        private int closing = NONE;

        Unit(boolean module, boolean acting) {
            this.module = module;
            this.acting = acting;
        }

        boolean hasRole(int role) {
            for (int i = 0; i < roleCount; i++) {
                if (roles[i] == role) {
                    return true;
                }
            }
            return false;
        }

        void addRole(int role) {
            if (roleCount < MOST_ROLES) {
                roles[roleCount] = role;
                roleCount++;
            }
        }

        void addSetting(long name, int number) {
            if (items < MOST_ITEMS) {
                names[items] = name;
                numbers[items] = number;
                items++;
            }
        }

        int addStatic(long name) {
            int rank = statics;
            if (items < MOST_ITEMS) {
                names[items] = name;
                numbers[items] = rank;
                areStatic[items] = true;
                items++;
                statics++;
            }
            return rank;
        }
    }

    /** What a text tells, with all starts, closings and demands in one row of instructions. */
    private static final class Station {
        private final long[] deviceNames;
        private final int[] froms;
        private final int[] tos;
        private final int[] paces;
        private final long[] unitNames;
        private final Unit[] told;
        // A bit for each unit that one leans on.
        private final int[] leanMasks;
        private final long[] demandNames;
        private final int[] demandStarts;
        private long[] code;
        private int devices = 0;
        private int units = 0;
        private int demands = 0;
        private int codeSize = 0;

        /** The rows are as long as a text of so many tokens can need: a device has nine at least, the others four. */
        Station(int tokens) {
            int deviceRoom = Math.min(MOST_DEVICES, tokens / 9 + 1);
            int unitRoom = Math.min(MOST_UNITS, tokens / 4 + 1);
            int demandRoom = Math.min(MOST_DEMANDS, tokens / 4 + 1);
            deviceNames = new long[deviceRoom];
            froms = new int[deviceRoom];
            tos = new int[deviceRoom];
            paces = new int[deviceRoom];
            unitNames = new long[unitRoom];
            told = new Unit[unitRoom];
            leanMasks = new int[unitRoom];
            demandNames = new long[demandRoom];
            demandStarts = new int[demandRoom];
            code = new long[tokens * 2 + 8];
        }

        void addDevice(long name, int from, int to, int pace) {
            if (devices < deviceNames.length) {
                deviceNames[devices] = name;
                froms[devices] = from;
                tos[devices] = to;
                paces[devices] = pace;
                devices++;
            }
        }

        /** The unit's base and roles are told: what follows from them is kept with it. */
        void addUnit(long name, Unit made) {
            if (units >= told.length) {
                return;
            }
            int[] row = new int[units + 1];
            made.search = Arrays.copyOf(row, fillSearch(made, row));
            made.climb = Arrays.copyOf(row, fillClimb(made, row));
            if (made.base >= 0) {
                leanMasks[units] |= 1 << made.base;
            }
            for (int i = 0; i < made.roleCount; i++) {
                leanMasks[units] |= 1 << made.roles[i];
            }
            unitNames[units] = name;
            told[units] = made;
            units++;
        }

        private int fillSearch(Unit made, int[] row) {
            row[0] = units;
            int size = 1;
            for (int i = 0; i < made.roleCount; i++) {
                size = addMissing(told[made.roles[i]].search, row, size);
            }
            return made.base < 0 ? size : addMissing(told[made.base].search, row, size);
        }

        private int fillClimb(Unit made, int[] row) {
            int size = 0;
            for (int i = 0; i < made.roleCount; i++) {
                size = addMissing(told[made.roles[i]].climb, row, size);
            }
            if (!made.module && size < row.length) {
                row[size] = units;
                size++;
            }
            return size;
        }

        private static int addMissing(int[] more, int[] row, int size) {
            int end = size;
            for (int i = 0; i < more.length; i++) {
                if (end < row.length && !contains(row, end, more[i])) {
                    row[end] = more[i];
                    end++;
                }
            }
            return end;
        }

        private static boolean contains(int[] row, int size, int wanted) {
            for (int i = 0; i < size && i < row.length; i++) {
                if (row[i] == wanted) {
                    return true;
                }
            }
            return false;
        }

        void addDemand(long name, int start) {
            if (demands < demandNames.length) {
                demandNames[demands] = name;
                demandStarts[demands] = start;
                demands++;
            }
        }

        boolean isTold(long name) {
            return rankOf(name, deviceNames, devices) >= 0 || rankOf(name, unitNames, units) >= 0
                    || rankOf(name, demandNames, demands) >= 0;
        }

        /** OWNER * MOST_ITEMS + the item's rank in it, or NONE. */
        int find(int unit, long name) {
            if (unit < 0 || unit >= units) {
                return NONE;
            }
            int[] search = told[unit].search;
            for (int i = 0; i < search.length; i++) {
                Unit owner = told[search[i]];
                for (int item = 0; item < owner.items; item++) {
                    if (owner.names[item] == name) {
                        return search[i] * MOST_ITEMS + item;
                    }
                }
            }
            return NONE;
        }

        boolean isStatic(int spot) {
            return told[spot / MOST_ITEMS].areStatic[spot % MOST_ITEMS];
        }

        /** The instruction that reads or sets what stands at a spot. */
        long placeWord(int spot, boolean toSet) {
            int what = toSet ? DO_STORE : isStatic(spot) ? DO_STATIC : DO_SETTING;
            int owner = spot / MOST_ITEMS;
            return word(what, owner, told[owner].numbers[spot % MOST_ITEMS]);
        }

        /** Returns where the instruction stands. */
        int emit(long word) {
            if (codeSize >= code.length) {
                code = Arrays.copyOf(code, code.length * 2 + 8);
            }
            code[codeSize] = word;
            codeSize++;
            return codeSize - 1;
        }

        void aimHere(int jump) {
            if (jump >= 0 && jump < codeSize) {
                code[jump] = word((int) code[jump] & 255, codeSize, 0);
            }
        }

        static long word(int what, int first, int second) {
            return (long) second << 32 | (long) (first & OPERAND_MASK) << 8 | what;
        }

        void leanOn(int unit, int on) {
            if (unit >= 0 && unit < units) {
                leanMasks[unit] |= 1 << on;
            }
        }

        void spreadLeans() {
            for (int through = 0; through < units; through++) {
                for (int u = 0; u < units; u++) {
                    if (leaning(u, through)) {
                        leanMasks[u] |= leanMasks[through];
                    }
                }
            }
        }

        boolean leaning(int u, int on) {
            return (leanMasks[u] >> on & 1) == 1;
        }
    }

    /** Reads the tape's tokens as a STATION; at the first wrong one it keeps the FAULT and throws. */
    private static final class Reader {
        private final Tape tape;
        private Station making = null;
        private int at = 0;
        // The kind of the token there.
        private int kind = END_OF_TEXT;
        // The unit whose text is read, NONE in a demand.
        private int inUnit = NONE;
        private int fault = 0;

        Reader(Tape tape) {
            this.tape = tape;
        }

        Station make() {
            making = new Station(tape.tokens);
            moveTo(0);
            for (int turn = 0; turn < tape.tokens && kind != END_OF_TEXT; turn++) {
                switch (kind) {
                    case DEVICE:
                        readDevice();
                        break;
                    case ACTING:
                    case ROLE:
                    case MODULE:
                        readUnit();
                        break;
                    case DEMAND:
                        readDemand();
                        break;
                    default:
                        refuse(CANNOT_STAND);
                }
            }
            settle();
            making.spreadLeans();
            return making;
        }

        private void moveTo(int token) {
            at = token;
            kind = token < tape.tokens ? tape.kinds[token] : END_OF_TEXT;
        }

        private void refuse(int wrong) {
            fault = wrong + 16 * (at < tape.tokens ? tape.places[at] : tape.size);
            throw new IllegalStateException("a FAULT of the text");
        }

        private int emit(int what, int first, int second) {
            return making.emit(Station.word(what, first, second));
        }

        private void take(int wanted) {
            if (kind != wanted) {
                refuse(CANNOT_STAND);
            }
            moveTo(at + 1);
        }

        private int takeNumber(int least, int most) {
            if (kind != NUMBER) {
                refuse(CANNOT_STAND);
            }
            long number = tape.valueAt(at);
            if (number < least || number > most) {
                refuse(BAD_NUMBER);
            }
            moveTo(at + 1);
            return (int) number;
        }

        private long takeNewName() {
            if (kind != NAME) {
                refuse(CANNOT_STAND);
            }
            long name = tape.valueAt(at);
            if (making.isTold(name)) {
                refuse(TOLD_ALREADY);
            }
            moveTo(at + 1);
            return name;
        }

        private long takeNewItemName(Unit made) {
            if (kind != NAME) {
                refuse(CANNOT_STAND);
            }
            long name = tape.valueAt(at);
            if (rankOf(name, made.names, made.items) >= 0) {
                refuse(TOLD_ALREADY);
            }
            if (made.items >= MOST_ITEMS) {
                refuse(TOO_MANY);
            }
            moveTo(at + 1);
            return name;
        }

        private int takeDevice() {
            if (kind != NAME) {
                refuse(CANNOT_STAND);
            }
            int device = rankOf(tape.valueAt(at), making.deviceNames, making.devices);
            if (device < 0) {
                refuse(NOT_TOLD);
            }
            moveTo(at + 1);
            return device;
        }

        private void readDevice() {
            if (making.devices >= MOST_DEVICES) {
                refuse(TOO_MANY);
            }
            moveTo(at + 1);
            long name = takeNewName();
            take(FROM);
            int from = takeNumber(0, MOST_NUMBER);
            take(TO);
            int to = takeNumber(from, MOST_NUMBER);
            take(PACE);
            int pace = takeNumber(1, MOST_NUMBER);
            take(';');
            making.addDevice(name, from, to, pace);
        }

        private void readDemand() {
            if (making.demands >= MOST_DEMANDS) {
                refuse(TOO_MANY);
            }
            moveTo(at + 1);
            inUnit = NONE;
            making.addDemand(takeNewName(), making.codeSize);
            readBlock(0);
            emit(DO_END, 0, 0);
        }

        private void readUnit() {
            if (making.units >= MOST_UNITS) {
                refuse(TOO_MANY);
            }
            inUnit = making.units;
            Unit made = kind == MODULE ? readModuleHead() : readRoleHead();
            made.start = making.codeSize;
            emitBringing(made);
            take('{');
            for (int turn = 0; turn < tape.tokens && kind != '}' && kind != CLOSING; turn++) {
                switch (kind) {
                    case SETTING:
                        readSetting(made);
                        break;
                    case STATIC:
                        readStatic(made);
                        break;
                    default:
                        readStatement(0);
                }
            }
            emit(DO_END, 0, 0);
            if (kind == CLOSING && made.module) {
                moveTo(at + 1);
                made.closing = making.codeSize;
                readBlock(0);
                emit(DO_END, 0, 0);
            }
            take('}');
        }

        private Unit readRoleHead() {
            boolean acting = kind == ACTING;
            if (acting) {
                moveTo(at + 1);
            }
            take(ROLE);
            Unit made = new Unit(false, acting);
            long name = takeNewName();
            if (kind == LIKE) {
                readRoles(made);
            }
            making.addUnit(name, made);
            return made;
        }

        private Unit readModuleHead() {
            moveTo(at + 1);
            Unit made = new Unit(true, false);
            long name = takeNewName();
            if (kind == ON) {
                moveTo(at + 1);
                made.base = readBase();
            }
            if (kind == HAS) {
                readRoles(made);
            }
            making.addUnit(name, made);
            return made;
        }

        private int readBase() {
            if (kind != NAME) {
                refuse(CANNOT_STAND);
            }
            int base = rankOf(tape.valueAt(at), making.unitNames, making.units);
            if (base < 0) {
                refuse(NOT_TOLD);
            }
            if (!making.told[base].module) {
                refuse(WRONG_SORT);
            }
            moveTo(at + 1);
            return base;
        }

        /** Begins at like or has; each further ROLE stands behind a comma. */
        private void readRoles(Unit made) {
            int more = kind;
            for (int turn = 0; turn < tape.tokens && kind == more; turn++) {
                moveTo(at + 1);
                more = ',';
                if (kind != NAME) {
                    refuse(CANNOT_STAND);
                }
                int role = rankOf(tape.valueAt(at), making.unitNames, making.units);
                if (role < 0) {
                    refuse(NOT_TOLD);
                }
                if (made.hasRole(role)) {
                    refuse(TOLD_ALREADY);
                }
                if (made.roleCount >= MOST_ROLES) {
                    refuse(TOO_MANY);
                }
                if (making.told[role].module) {
                    refuse(WRONG_SORT);
                }
                made.addRole(role);
                moveTo(at + 1);
            }
        }

        /** A planned fault comes behind the base and the roles, ahead of the first ITEM. */
        private void emitBringing(Unit made) {
            if (made.base >= 0) {
                emit(DO_BRING, made.base, 0);
            }
            for (int i = 0; made.module && i < made.climb.length; i++) {
                if (making.told[made.climb[i]].acting) {
                    emit(DO_BRING, made.climb[i], 0);
                }
            }
            emit(DO_PLANNED, 0, 0);
        }

        private void readSetting(Unit made) {
            moveTo(at + 1);
            long name = takeNewItemName(made);
            take('=');
            boolean minus = kind == '-';
            if (minus) {
                moveTo(at + 1);
            }
            int number = takeNumber(0, MOST_NUMBER);
            take(';');
            made.addSetting(name, minus ? -number : number);
        }

        private void readStatic(Unit made) {
            moveTo(at + 1);
            emit(DO_STEP, 0, 0);
            long name = takeNewItemName(made);
            take('=');
            readExpression(0, 0);
            take(';');
            emit(DO_STORE, inUnit, made.addStatic(name));
        }

        /** Within is how many BLOCKS are around, here and with PARTS below: there is one bound for both. */
        private void readBlock(int within) {
            if (kind != '{') {
                refuse(CANNOT_STAND);
            }
            if (within >= MOST_WITHIN) {
                refuse(TOO_MANY);
            }
            moveTo(at + 1);
            for (int turn = 0; turn < tape.tokens && kind != '}'; turn++) {
                readStatement(within + 1);
            }
            take('}');
        }

        private void readStatement(int within) {
            int start = emit(DO_STEP, 0, 0);
            switch (kind) {
                case NAME:
                    long store = readPlace(true);
                    take('=');
                    readExpression(0, within);
                    take(';');
                    making.emit(store);
                    break;
                case TOUCH:
                    readTouch();
                    break;
                case ORDER:
                    moveTo(at + 1);
                    int device = takeDevice();
                    readExpression(0, within);
                    take(';');
                    emit(DO_ORDER, device, 0);
                    break;
                case CHECK:
                    moveTo(at + 1);
                    readExpression(0, within);
                    take(';');
                    emit(DO_CHECK, 0, 0);
                    break;
                case FAIL:
                    moveTo(at + 1);
                    emit(DO_FAIL, takeNumber(1, 9), 0);
                    take(';');
                    break;
                case IF:
                    readIf(within);
                    break;
                case WHILE:
                    readWhile(within, start);
                    break;
                case TRY:
                    readTry(within);
                    break;
                default:
                    refuse(CANNOT_STAND);
            }
        }

        private void readIf(int within) {
            moveTo(at + 1);
            readExpression(0, within);
            int unless = emit(DO_UNLESS, 0, 0);
            readBlock(within);
            if (kind == ELSE) {
                moveTo(at + 1);
                int over = emit(DO_JUMP, 0, 0);
                making.aimHere(unless);
                readBlock(within);
                making.aimHere(over);
            } else {
                making.aimHere(unless);
            }
        }

        private void readWhile(int within, int start) {
            moveTo(at + 1);
            readExpression(0, within);
            int unless = emit(DO_UNLESS, 0, 0);
            readBlock(within);
            emit(DO_JUMP, start, 0);
            making.aimHere(unless);
        }

        private void readTry(int within) {
            moveTo(at + 1);
            int guard = emit(DO_TRY, 0, 0);
            readBlock(within);
            emit(DO_LEAVE, 0, 0);
            int over = emit(DO_JUMP, 0, 0);
            take(ON);
            making.aimHere(guard);
            readBlock(within);
            making.aimHere(over);
        }

        private void readTouch() {
            moveTo(at + 1);
            int token = at;
            take(NAME);
            take(';');
            emit(LATER_TOUCH, token, inUnit);
        }

        /** The instruction that reads or sets the PLACE. */
        private long readPlace(boolean toSet) {
            int token = at;
            if (tape.kindAt(token + 1) == '.') {
                moveTo(token + 2);
                take(NAME);
                return Station.word(toSet ? LATER_STORE : LATER_READ, token, inUnit);
            }
            int spot = making.find(inUnit, tape.valueAt(token));
            if (spot < 0) {
                refuse(NOT_TOLD);
            }
            if (toSet && !making.isStatic(spot)) {
                refuse(WRONG_SORT);
            }
            making.leanOn(inUnit, spot / MOST_ITEMS);
            moveTo(token + 1);
            return making.placeWord(spot, toSet);
        }

        /** Level 0 compares once, 1 adds, 2 multiplies; within is how many BLOCKS and PARTS are around. */
        private void readExpression(int level, int within) {
            if (level > 2) {
                readPart(within);
                return;
            }
            readExpression(level + 1, within);
            int most = level == 0 ? 1 : tape.tokens;
            for (int turn = 0; turn < most && isJoint(level, kind); turn++) {
                int joint = kind;
                moveTo(at + 1);
                readExpression(level + 1, within);
                emit(joint, 0, 0);
            }
        }

        private static boolean isJoint(int level, int kind) {
            switch (level) {
                case 0:
                    return kind == '<' || kind == '=';
                case 1:
                    return kind == '+' || kind == '-';
                default:
                    return kind == '*' || kind == '/' || kind == '%';
            }
        }

        private void readPart(int within) {
            refuseNoPart(within);
            emit(DO_STEP, 0, 0);
            int start = kind;
            switch (start) {
                case NAME:
                    making.emit(readPlace(false));
                    break;
                case NUMBER:
                    emit(DO_NUMBER, 0, takeNumber(0, MOST_NUMBER));
                    break;
                case '(':
                    moveTo(at + 1);
                    readExpression(0, within + 1);
                    take(')');
                    break;
                case '-':
                    moveTo(at + 1);
                    readPart(within + 1);
                    emit(DO_NEGATE, 0, 0);
                    break;
                case OF:
                    moveTo(at + 1);
                    emit(DO_OF, takeDevice(), 0);
                    break;
                default:
                    moveTo(at + 1);
                    emit(start == KIND ? DO_KIND : DO_BEATS, 0, 0);
            }
        }

        /** Of the first token the least fault counts: a NAME without an OWNER is that ahead of being one too many. */
        private void refuseNoPart(int within) {
            boolean starts = kind == NAME || kind == NUMBER || kind == '(' || kind == '-' || kind == OF
                    || kind == KIND || kind == BEATS;
            if (!starts) {
                refuse(CANNOT_STAND);
            }
            boolean alone = kind == NAME && tape.kindAt(at + 1) != '.';
            if (alone && making.find(inUnit, tape.valueAt(at)) < 0) {
                refuse(NOT_TOLD);
            }
            if (within >= MOST_WITHIN) {
                refuse(TOO_MANY);
            }
        }

        /** The instructions are not in the order of the tokens, so the first wrong token is looked for. */
        private void settle() {
            int wrongToken = tape.tokens;
            int wrongKind = 0;
            for (int i = 0; i < making.codeSize; i++) {
                int what = (int) making.code[i] & 255;
                if (what == LATER_READ || what == LATER_STORE || what == LATER_TOUCH) {
                    int wrong = settleOne(i, what);
                    int token = wrong / 16;
                    if (wrong > 0 && token < wrongToken) {
                        wrongToken = token;
                        wrongKind = wrong % 16;
                    }
                }
            }
            if (wrongKind > 0) {
                moveTo(wrongToken);
                refuse(wrongKind);
            }
        }

        /** 0, or what is wrong + 16 * the wrong token. */
        private int settleOne(int i, int what) {
            int token = (int) (making.code[i] >> 8) & OPERAND_MASK;
            int namer = (int) (making.code[i] >> 32);
            int unit = rankOf(tape.valueAt(token), making.unitNames, making.units);
            if (unit < 0) {
                return NOT_TOLD + 16 * token;
            }
            making.leanOn(namer, unit);
            if (what == LATER_TOUCH) {
                making.code[i] = Station.word(DO_TOUCH, unit, 0);
                return 0;
            }
            int spot = making.find(unit, tape.valueAt(token + 2));
            if (spot < 0) {
                return NOT_TOLD + 16 * (token + 2);
            }
            boolean toSet = what == LATER_STORE;
            if (toSet && !making.isStatic(spot)) {
                return WRONG_SORT + 16 * (token + 2);
            }
            making.code[i] = making.placeWord(spot, toSet);
            return 0;
        }
    }

    /** How units and devices stand, and which faults are planned. */
    private static final class State {
        private final int[] stages = new int[MOST_UNITS];
        private final int[] editions = new int[MOST_UNITS];
        private final int[] statics = new int[MOST_UNITS * MOST_ITEMS];
        private final int[] causeFirst = new int[MOST_UNITS];
        private final int[] causeSecond = new int[MOST_UNITS];
        private final int[] needs = new int[MOST_UNITS * MOST_UNITS];
        private final int[] needCounts = new int[MOST_UNITS];
        // A bit for each edition that a fault is planned for.
        private final int[] plans = new int[MOST_UNITS];
        private final int[] places = new int[MOST_DEVICES];
        private final int[] goals = new int[MOST_DEVICES];
        private int planned = 0;
        private int beat = 0;

        void reset(Station station) {
            for (int u = 0; u < MOST_UNITS; u++) {
                renew(u);
                editions[u] = 0;
            }
            for (int d = 0; d < station.devices; d++) {
                places[d] = station.froms[d];
                goals[d] = station.froms[d];
            }
            beat = 0;
            dropPlans();
        }

        /** The unit is down, in an edition one higher. */
        void renew(int u) {
            stages[u] = DOWN;
            editions[u]++;
            causeFirst[u] = 0;
            causeSecond[u] = 0;
            needCounts[u] = 0;
            Arrays.fill(statics, u * MOST_ITEMS, (u + 1) * MOST_ITEMS, 0);
        }

        /** What a demand can change, but for needs, of which the counts tell how many there are. */
        void copy(State from) {
            System.arraycopy(from.stages, 0, stages, 0, stages.length);
            System.arraycopy(from.statics, 0, statics, 0, statics.length);
            System.arraycopy(from.causeFirst, 0, causeFirst, 0, causeFirst.length);
            System.arraycopy(from.causeSecond, 0, causeSecond, 0, causeSecond.length);
            System.arraycopy(from.needCounts, 0, needCounts, 0, needCounts.length);
            System.arraycopy(from.goals, 0, goals, 0, goals.length);
        }

        int unitsAt(int stage) {
            int many = 0;
            for (int u = 0; u < MOST_UNITS; u++) {
                if (stages[u] == stage) {
                    many++;
                }
            }
            return many;
        }

        boolean isPlanned(int u, int edition) {
            return (plans[u] >> edition & 1) == 1;
        }

        void addPlan(int u, int edition) {
            plans[u] |= 1 << edition;
            planned++;
        }

        void dropPlans() {
            Arrays.fill(plans, 0);
            planned = 0;
        }

        void noteNeed(int u, int needed) {
            int first = u * MOST_UNITS;
            int size = needCounts[u];
            for (int i = 0; i < size; i++) {
                if (needs[first + i] == needed) {
                    return;
                }
            }
            if (size < MOST_UNITS) {
                needs[first + size] = needed;
                needCounts[u]++;
            }
        }

        void fail(int u, int first, int second) {
            stages[u] = FAILED;
            causeFirst[u] = first;
            causeSecond[u] = second;
        }
    }

    /** What was noted since the STATION; of HALF looks and orders all are counted, and the first ones kept. */
    private static final class Books {
        private final int[] upRows = new int[MOST_UP * 3];
        private final int[] halfRows = new int[MOST_NOTED * 3];
        private final int[] orderRows = new int[MOST_NOTED * 4];
        private final int[] closedRows = new int[MOST_UNITS * 2];
        private int ups = 0;
        private int halves = 0;
        private int orders = 0;
        private int closings = 0;

        void empty() {
            cut(0, 0, 0);
            closings = 0;
        }

        void cut(int upsKept, int halvesKept, int ordersKept) {
            ups = upsKept;
            halves = halvesKept;
            orders = ordersKept;
        }

        void addUp(int unit, int edition, int demand) {
            if (ups < MOST_UP) {
                upRows[ups * 3] = unit;
                upRows[ups * 3 + 1] = edition;
                upRows[ups * 3 + 2] = demand;
                ups++;
            }
        }

        void addHalf(int who, int owner, int rank) {
            if (halves < MOST_NOTED) {
                halfRows[halves * 3] = who;
                halfRows[halves * 3 + 1] = owner;
                halfRows[halves * 3 + 2] = rank;
            }
            halves++;
        }

        void addOrder(int who, int device, int goal, boolean accepted) {
            if (orders < MOST_NOTED) {
                orderRows[orders * 4] = who;
                orderRows[orders * 4 + 1] = device;
                orderRows[orders * 4 + 2] = goal;
                orderRows[orders * 4 + 3] = accepted ? 1 : 0;
            }
            orders++;
        }

        void addClosed(int unit, int kind) {
            if (closings < MOST_UNITS) {
                closedRows[closings * 2] = unit;
                closedRows[closings * 2 + 1] = kind;
                closings++;
            }
        }

        int upAt(int i, int what) {
            return at(upRows, ups, 3, i, what);
        }

        int halfAt(int i, int what) {
            return at(halfRows, Math.min(halves, MOST_NOTED), 3, i, what);
        }

        int orderAt(int i, int what) {
            return at(orderRows, Math.min(orders, MOST_NOTED), 4, i, what);
        }

        int closedAt(int i, int what) {
            return at(closedRows, closings, 2, i, what);
        }

        private static int at(int[] rows, int size, int width, int i, int what) {
            boolean there = i >= 0 && i < size && what >= 0 && what < width;
            return there ? rows[i * width + what] : NONE;
        }
    }

    /** A start, demand or closing that is being done. */
    private static final class Frame {
        // Where the BLOCKS of on begin, of each try whose first BLOCK is being done.
        private final int[] handlers = new int[MOST_WITHIN];
        private int unit = NONE;
        private int next = 0;
        private int kind = 0;
        private int floor = 0;
        private int tries = 0;

        void open(int ofUnit, int start, int values) {
            unit = ofUnit;
            next = start;
            kind = 0;
            floor = values;
            tries = 0;
        }

        void addTry(int handler) {
            if (tries < handlers.length) {
                handlers[tries] = handler;
                tries++;
            }
        }
    }

    /** Runs the instructions of demands, with the starts that they bring about, and of closings. */
    private static final class Machine {
        private final State state;
        private final Books books;
        private final Frame[] frames = new Frame[MOST_OPEN];
        private final int[] values = new int[MOST_VALUES];
        private Station station = null;
        private Frame top = null;
        private int open = 0;
        private int size = 0;
        private int demand = NONE;
        private boolean closing = false;
        private int stepsLeft = 0;
        private int stepsInAll = 0;
        private int used = 0;
        private boolean running = false;
        private boolean outOfSteps = false;
        private int faultFirst = 0;
        private int faultSecond = 0;

        Machine(State state, Books books) {
            this.state = state;
            this.books = books;
            for (int i = 0; i < MOST_OPEN; i++) {
                frames[i] = new Frame();
            }
        }

        void runDemand(Station of, int d, int steps) {
            demand = d;
            closing = false;
            run(of, NONE, of.demandStarts[d], steps);
        }

        /** The first kind that ended it, or 0. */
        int runClosing(Station of, int u) {
            int start = of.told[u].closing;
            if (start < 0) {
                return 0;
            }
            closing = true;
            run(of, u, start, MOST_STEPS_CLOSING);
            return outOfSteps ? NO_STEPS : faultFirst;
        }

        private void run(Station of, int unit, int start, int steps) {
            station = of;
            open = 0;
            size = 0;
            stepsLeft = steps;
            used = 0;
            outOfSteps = false;
            faultFirst = 0;
            faultSecond = 0;
            running = true;
            enter(unit, start);
            for (int turn = 0; turn < MOST_TURNS && running; turn++) {
                int next = top.next;
                long word = next >= 0 && next < of.codeSize ? of.code[next] : DO_END;
                top.next++;
                perform((int) word & 255, (int) (word >> 8) & OPERAND_MASK, (int) (word >> 32));
            }
        }

        private void enter(int unit, int start) {
            if (open < frames.length) {
                top = frames[open];
                top.open(unit, start, size);
                open++;
            }
        }

        private void perform(int what, int first, int second) {
            switch (what) {
                case DO_STEP:
                    step();
                    break;
                case DO_NUMBER:
                    push(second);
                    break;
                case DO_SETTING:
                    noteNeed(first);
                    push(second);
                    break;
                case DO_STATIC:
                    look(first, second);
                    break;
                case DO_STORE:
                    store(first, second);
                    break;
                case DO_TOUCH:
                    noteNeed(first);
                    isThere(first);
                    break;
                case DO_BRING:
                    isThere(first);
                    break;
                case DO_PLANNED:
                    if (state.isPlanned(top.unit, state.editions[top.unit])) {
                        raise(FAULT_PLANNED);
                    }
                    break;
                case DO_ORDER:
                    giveOrder(first, pop());
                    break;
                case DO_CHECK:
                    if (pop() == 0) {
                        raise(FAULT_CHECK);
                    }
                    break;
                case DO_FAIL:
                    raise(first);
                    break;
                case DO_END:
                    leave();
                    break;
                default:
                    performPlain(what, first);
            }
        }

        /** What neither touches a unit nor faults, but for a division. */
        private void performPlain(int what, int first) {
            switch (what) {
                case DO_NEGATE:
                    push(-pop());
                    break;
                case DO_OF:
                    push(state.places[first]);
                    break;
                case DO_KIND:
                    push(top.kind);
                    break;
                case DO_BEATS:
                    push(state.beat);
                    break;
                case DO_JUMP:
                    top.next = first;
                    break;
                case DO_UNLESS:
                    if (pop() == 0) {
                        top.next = first;
                    }
                    break;
                case DO_TRY:
                    top.addTry(first);
                    break;
                case DO_LEAVE:
                    top.tries--;
                    break;
                default:
                    int right = pop();
                    reckon(what, pop(), right);
            }
        }

        private void reckon(int joint, int left, int right) {
            switch (joint) {
                case '+':
                    push(left + right);
                    break;
                case '-':
                    push(left - right);
                    break;
                case '*':
                    push(left * right);
                    break;
                case '<':
                    push(left < right ? 1 : 0);
                    break;
                case '=':
                    push(left == right ? 1 : 0);
                    break;
                default:
                    if (right == 0) {
                        raise(FAULT_ZERO);
                    } else {
                        push(joint == '/' ? left / right : left % right);
                    }
            }
        }

        private void push(int value) {
            if (size < values.length) {
                values[size] = value;
                size++;
            }
        }

        private int pop() {
            if (size <= 0) {
                return 0;
            }
            size--;
            return values[size];
        }

        private void step() {
            if (stepsLeft <= 0 || stepsInAll >= MOST_STEPS_IN_ALL) {
                outOfSteps = true;
                running = false;
                for (int i = 1; i < open; i++) {
                    state.fail(frames[i].unit, NO_STEPS, 0);
                }
                return;
            }
            stepsLeft--;
            stepsInAll++;
            used++;
        }

        private void noteNeed(int needed) {
            if (!closing && top.unit >= 0 && top.unit != needed) {
                state.noteNeed(top.unit, needed);
            }
        }

        /** TOUCHES a unit. When it must come up first, the instruction is done again behind that. */
        private boolean isThere(int u) {
            int stage = state.stages[u];
            if (closing || stage == UP || stage == COMING_UP) {
                return true;
            }
            if (stage == DOWN) {
                top.next--;
                state.stages[u] = COMING_UP;
                enter(u, station.told[u].start);
            } else {
                raise(FAULT_BEFORE);
            }
            return false;
        }

        private void look(int owner, int rank) {
            noteNeed(owner);
            if (!isThere(owner)) {
                return;
            }
            if (!closing && state.stages[owner] == COMING_UP && top.unit != owner) {
                books.addHalf(top.unit, owner, rank);
            }
            push(state.statics[owner * MOST_ITEMS + rank]);
        }

        private void store(int owner, int rank) {
            noteNeed(owner);
            if (isThere(owner)) {
                state.statics[owner * MOST_ITEMS + rank] = pop();
            }
        }

        private void giveOrder(int device, int goal) {
            boolean accepted = goal >= station.froms[device] && goal <= station.tos[device];
            books.addOrder(top.unit, device, goal, accepted);
            if (accepted) {
                state.goals[device] = goal;
            } else {
                raise(FAULT_REFUSED);
            }
        }

        /** At the end of a start the unit is up; at that of a demand or closing all is done. */
        private void leave() {
            if (open <= 1) {
                running = false;
                return;
            }
            int u = top.unit;
            state.stages[u] = UP;
            books.addUp(u, state.editions[u], demand);
            drop();
        }

        private void drop() {
            open--;
            top = frames[open - 1];
        }

        /** Goes outward up to the nearest try; starts on the way fail. */
        private void raise(int kind) {
            int first = kind;
            int second = 0;
            for (int turn = 0; turn < MOST_OPEN; turn++) {
                if (top.tries > 0) {
                    top.tries--;
                    top.kind = first;
                    top.next = top.handlers[top.tries];
                    size = top.floor;
                    return;
                }
                if (open <= 1) {
                    faultFirst = first;
                    faultSecond = second;
                    running = false;
                    return;
                }
                if (first != FAULT_START && first != FAULT_BEFORE) {
                    second = first;
                    first = FAULT_START;
                }
                state.fail(top.unit, first, second);
                drop();
            }
        }
    }
}
