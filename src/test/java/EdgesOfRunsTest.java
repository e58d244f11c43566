/**
 * The edges that "2. UNITS" and "3. A BEAT, CLOSING, LEANS" of the document name. Each test stands for one sentence, which
 * is told above it.
 */
public final class EdgesOfRunsTest {
    private static final Checks CHECKS = new Checks();
    private static final String DEVICE = "device d from 2 to 9 pace 3; ";
    private static final int LEAST = Integer.MIN_VALUE;
    private static final int LARGEST = Integer.MAX_VALUE;

    public static void main(String[] args) {
        touchingEachState();
        rolesInOrder();
        rolesAlone();
        comingUpFromAheadOfThese();
        thenItIsUp();
        readingSettings();
        readingStatics();
        noHalfLook();
        settingPlaces();
        neededOnce();
        wrapping();
        cuttingTowardsZero();
        byZero();
        comparing();
        ofAndBeats();
        kindAheadOfOne();
        ordersFromTo();
        checksOfZero();
        unlessZero();
        rowsOfKinds();
        upToATry();
        startsThatFail();
        basesThatFail();
        plannedOnes();
        stepsOfEach();
        deepestOfAll();
        oneMoreThanTold();
        hundredThousandInAll();
        goingToTheGoal();
        latestFirst();
        closingTouchesNothing();
        closingFaults();
        twoThousandSteps();
        closingBeyondAllSteps();
        shutBehindIt();
        leaningOnAll();
        CHECKS.end();
    }

    private static String times(int many, String row) {
        StringBuilder text = new StringBuilder();
        for (int i = 0; i < many; i++) {
            text.append(row.replace("#", String.valueOf(i)).replace("$", String.valueOf(i + 1)));
        }
        return text.toString();
    }

    private static void done(StationStarter s, int d, int want) {
        CHECKS.due("demand(" + d + ", 5000)", s.demand(d, 5000), want);
    }

    private static void state(StationStarter s, int u, int want) {
        CHECKS.due("unit(" + u + ", 0)", CHECKS.unit(s, u, 0), want);
    }

    private static void dueRead(StationStarter s, int u, int k, int want) {
        CHECKS.due("read(" + u + ", " + k + ")", CHECKS.read(s, u, k), want);
    }

    /** The units that came up, in their order, and none behind them. */
    private static void cameUp(StationStarter s, int... units) {
        for (int i = 0; i < units.length; i++) {
            CHECKS.dueUp(s, i, units[i]);
        }
        CHECKS.dueUp(s, units.length, -1, -1, -1);
        CHECKS.due("count(7)", s.count(7), units.length);
    }

    /** "To TOUCH a unit: if it is up, or coming up: nothing. If it has failed: a fault BEFORE. If it is down it COMES UP" */
    private static void touchingEachState() {
        StationStarter s = CHECKS.made("module m { static n = 0; n = n + 1; touch m; m.n = m.n + 1; } module f { fail 3; } "
                + "demand w { touch m; touch m; touch m; } demand v { touch f; } demand u { try { touch f; } on { touch f; } }");
        state(s, 0, 0);
        done(s, 0, 0);
        done(s, 0, 0);
        state(s, 0, 2);
        dueRead(s, 0, 0, 2);
        cameUp(s, 0);
        done(s, 1, 1);
        state(s, 1, 3);
        int steps = s.count(9);
        done(s, 1, 2);
        CHECKS.dueEnded(s, 21);
        CHECKS.due("a failed start is not done again: count(9)", s.count(9), steps + 1);
        done(s, 2, 2);
        CHECKS.dueCause(s, 1, 20, 3);
        // Coming up, by way of others.
        s = CHECKS.made("module a { touch b; } module b { touch c; } module c { touch a; touch b; touch c; } demand w { touch a; }");
        done(s, 0, 0);
        cameUp(s, 2, 1, 0);
        CHECKS.due("count(5)", s.count(5), 0);
    }

    /** "TOUCH its base; then, for each of its roles in order: for each that it is like, so, then it, if it is acting" */
    private static void rolesInOrder() {
        StationStarter s = CHECKS.made("acting role a { } acting role b { } role c like b, a { } acting role d like c { } "
                + "module x has a { } module y on x has d, c { } demand w { touch y; }");
        done(s, 0, 0);
        cameUp(s, 0, 4, 1, 3, 5);
        state(s, 2, 0);
        // What is met on many ways is touched on the first of them.
        s = CHECKS.made("acting role a { } acting role b like a { } acting role c like a, b { } acting role e like c, b, a { setting k = 1; } "
                + "module x has e { } module m on x has c, b, a, e { static v = k; } demand w { touch m; }");
        done(s, 0, 0);
        cameUp(s, 0, 1, 2, 3, 4, 5);
        // As deep, and as many, as there can be.
        s = CHECKS.made("acting role r0 { }" + times(22, "acting role r$ like r# { }") + "module m has r22 { } demand w { touch m; }");
        done(s, 0, 0);
        for (int u = 0; u < 24; u++) {
            CHECKS.dueUp(s, u, u, 0, 0);
        }
        s = CHECKS.made(times(6, "acting role r# { }") + "module m has r5, r4, r3, r2, r1, r0 { } demand w { touch m; }");
        done(s, 0, 0);
        cameUp(s, 5, 4, 3, 2, 1, 0, 6);
        s = CHECKS.made("module m0 { }" + times(23, "module m$ on m# { }") + "demand w { touch m23; }");
        done(s, 0, 0);
        for (int u = 0; u < 24; u++) {
            CHECKS.dueUp(s, u, u, 0, 0);
        }
    }

    /** "a role: nothing of these": neither those that it is like, acting or not; and none acting is brought up when touched. */
    private static void rolesAlone() {
        StationStarter s = CHECKS.made("acting role a { fail 1; } acting role b like a { static s = 1; } role c like b { } "
                + "demand w { touch b; touch c; }");
        done(s, 0, 0);
        cameUp(s, 1, 2);
        state(s, 0, 0);
    }

    /** "STATE 1 from ahead of these": what its base and roles see of it is half-made. */
    private static void comingUpFromAheadOfThese() {
        StationStarter s = CHECKS.made("acting role r { static p = m.t + 1; m.t = 7; } module b { static s = m.t + 2; } "
                + "module m on b has r { static u = m.t; static t = 4; } demand w { touch m; }");
        done(s, 0, 0);
        cameUp(s, 1, 0, 2);
        CHECKS.dueHalf(s, 0, 1, 2, 1);
        CHECKS.dueHalf(s, 1, 0, 2, 1);
        CHECKS.due("count(5)", s.count(5), 2);
        dueRead(s, 1, 0, 2);
        dueRead(s, 0, 0, 1);
        dueRead(s, 2, 0, 7);
        dueRead(s, 2, 1, 4);
    }

    /** "Then it is up: it comes behind the others in the book of those that came up, with its edition and the demand." */
    private static void thenItIsUp() {
        StationStarter s = CHECKS.made("module a { touch b; } module b { } module c { } demand w { } demand v { touch a; } demand u { touch a; touch c; }");
        done(s, 0, 0);
        cameUp(s);
        CHECKS.due("heal(0)", s.heal(0), 1);
        done(s, 1, 0);
        done(s, 2, 0);
        CHECKS.due("heal(1)", s.heal(1), 2);
        done(s, 2, 0);
        int[][] rows = {{1, 0, 1}, {0, 1, 1}, {2, 0, 2}, {1, 1, 2}, {0, 2, 2}, {-1, -1, -1}};
        for (int i = 0; i < rows.length; i++) {
            CHECKS.dueUp(s, i, rows[i]);
        }
    }

    /** "To read a PLACE: of a setting: its number.": whatever its unit's STATE, which it leaves. */
    private static void readingSettings() {
        StationStarter s = CHECKS.made("module f { setting k = - 5; fail 1; } module g { setting k = 6; } "
                + "module m { static a = f.k + g.k; } demand w { touch f; } demand v { check f.k = - 5; touch m; }");
        done(s, 0, 1);
        done(s, 1, 0);
        dueRead(s, 2, 0, 1);
        state(s, 0, 3);
        state(s, 1, 0);
        CHECKS.dueNeeds(s, 2, 0, 1);
    }

    /** "Of a static: TOUCH its OWNER, then it is what it is now; if the OWNER is coming up .. it is a HALF look: noted" */
    private static void readingStatics() {
        StationStarter s = CHECKS.made("module a { static x = 3; static y = b.z; static w = 9; } "
                + "module b { static z = a.x * 100 + a.w * 10 + a.y; static q = c.v; } "
                + "role c { static v = a.x; } demand w { check a.w = 9; } demand v { check a.y + b.q = 303; }");
        done(s, 0, 0);
        CHECKS.dueHalf(s, 0, 1, 0, 0);
        CHECKS.dueHalf(s, 1, 1, 0, 2);
        CHECKS.dueHalf(s, 2, 1, 0, 1);
        CHECKS.dueHalf(s, 3, 2, 0, 0);
        CHECKS.dueHalf(s, 4, -1, -1, -1);
        dueRead(s, 0, 1, 300);
        cameUp(s, 2, 1, 0);
        // What is up is looked at as a whole.
        done(s, 1, 0);
        CHECKS.due("count(5)", s.count(5), 4);
        // The value is the one behind what the TOUCH does.
        s = CHECKS.made("module a { static x = 1; static y = x * 10 + b.z + x; } module b { a.x = 5; static z = 100; } demand w { touch a; }");
        done(s, 0, 0);
        dueRead(s, 0, 1, 10 + 100 + 5);
    }

    /** "and this is the start of another unit": one's own statics, settings, and what is set or touched, are no HALF look. */
    private static void noHalfLook() {
        StationStarter s = CHECKS.made("module a { setting k = 1; static x = 1; x = x + a.x + k; touch b; static y = b.p; } "
                + "module b { static p = a.k; a.x = 7; touch a; } demand w { touch a; check a.x = 7; }");
        done(s, 0, 0);
        CHECKS.due("count(5)", s.count(5), 0);
        CHECKS.dueHalf(s, 0, -1, -1, -1);
    }

    /** "PLACE = E: E, then TOUCH the OWNER, then it is that." */
    private static void settingPlaces() {
        StationStarter s = CHECKS.made("module a { static x = 1; } module b { static y = 2; } module f { static z = 1; fail 5; } "
                + "demand w { a.x = b.y + 40; } demand v { f.z = 1 / 0; } demand u { f.z = 8; }");
        done(s, 0, 0);
        cameUp(s, 1, 0);
        dueRead(s, 0, 0, 42);
        // E is ahead of TOUCH: its fault leaves the OWNER down; and the OWNER's fault leaves the PLACE.
        done(s, 1, 3);
        state(s, 2, 0);
        done(s, 2, 1);
        dueRead(s, 2, 0, 1);
        done(s, 2, 2);
        dueRead(s, 2, 0, 1);
    }

    /** "NEEDED by it (noted once in an edition, ahead of TOUCH; not itself)" */
    private static void neededOnce() {
        StationStarter s = CHECKS.made("acting role r { } module b { static x = 1; } module f { static z = 1; fail 1; } "
                + "module m on b has r { static s = 1; s = s + m.s; touch m; x = 2; x = x; b.x = 3; try { touch f; } on { } "
                + "try { s = f.z; } on { } touch r; } demand w { touch m; touch b; b.x = m.s; }");
        done(s, 0, 0);
        CHECKS.dueNeeds(s, 3, 1, 2, 0);
        CHECKS.dueNeeds(s, 0);
        CHECKS.dueNeeds(s, 1);
        CHECKS.dueNeeds(s, 2);
        // All others, once each.
        s = CHECKS.made("module m { static s = 1;" + times(23, "touch n#;") + times(23, "touch n#;") + "} "
                + times(23, "module n# { }") + "demand w { touch m; }");
        done(s, 0, 0);
        for (int i = 0; i < 23; i++) {
            CHECKS.due("need(0, " + i + ")", s.need(0, i), i + 1);
        }
        CHECKS.due("need(0, 23)", s.need(0, 23), -1);
        CHECKS.due("need(0, 24)", s.need(0, 24), -1);
        // What ends with the STEPS is noted, too: ahead of TOUCH.
        s = CHECKS.made("module a { touch b; } module b { static s = 1; } demand w { touch a; }");
        CHECKS.due("demand(0, 2)", s.demand(0, 2), 6);
        CHECKS.dueNeeds(s, 0, 1);
    }

    private static int worth(String expression) {
        StationStarter s = CHECKS.made("module m { static v = 0; static least = - 999999999 - 999999999 - 147483650; v = "
                + expression + "; } demand w { touch m; }");
        done(s, 0, 0);
        return CHECKS.read(s, 0, 0);
    }

    private static void dueWorth(String expression, int want) {
        CHECKS.due(expression, worth(expression), want);
    }

    /** "+ - * wrap in 32 bits" */
    private static void wrapping() {
        dueWorth("least", LEAST);
        dueWorth("least - 1", LARGEST);
        dueWorth("least - 1 + 1", LEAST);
        dueWorth("- least", LEAST);
        dueWorth("- (least + 1)", LARGEST);
        dueWorth("0 - least", LEAST);
        dueWorth("least * least", 0);
        dueWorth("least * 2", 0);
        dueWorth("least * - 1", LEAST);
        dueWorth("least + least", 0);
        dueWorth("(least - 1) * (least - 1)", 1);
        dueWorth("(least - 1) * 2", -2);
        dueWorth("65536 * 65536", 0);
        dueWorth("65536 * 32768", LEAST);
        dueWorth("46341 * 46341", -2147479015);
        dueWorth("999999999 + 999999999 + 999999999", -1294967299);
    }

    /** "/ and % cut towards 0" */
    private static void cuttingTowardsZero() {
        dueWorth("7 / 2", 3);
        dueWorth("- 7 / 2", -3);
        dueWorth("7 / - 2", -3);
        dueWorth("- 7 / - 2", 3);
        dueWorth("7 % 2", 1);
        dueWorth("- 7 % 2", -1);
        dueWorth("7 % - 2", 1);
        dueWorth("- 7 % - 2", -1);
        dueWorth("1 / 2", 0);
        dueWorth("- 1 / 2", 0);
        dueWorth("0 / 5 + 0 % 5", 0);
        dueWorth("least / - 1", LEAST);
        dueWorth("least % - 1", 0);
        dueWorth("least / 1", LEAST);
        dueWorth("least / least", 1);
        dueWorth("(least - 1) / least", 0);
        dueWorth("(least - 1) % least", LARGEST);
        dueWorth("least % 10", -8);
    }

    /** "by 0: fault ZERO" */
    private static void byZero() {
        for (String zero : new String[] {"1 / 0", "1 % 0", "0 / 0", "0 % 0", "m.s / m.z", "- 5 % (1 - 1)", "1 + 2 * (3 / 0)"}) {
            StationStarter s = CHECKS.made("module m { static s = 5; static z = 0; } demand w { m.s = " + zero + "; } demand v { touch m; }");
            done(s, 0, 3);
            CHECKS.dueEnded(s, 13);
            done(s, 1, 0);
            dueRead(s, 0, 0, 5);
        }
        dueWorth("0 * (1 + 1) / 1", 0);
    }

    /** "<, = tell 1 or 0." */
    private static void comparing() {
        dueWorth("1 < 2", 1);
        dueWorth("2 < 2", 0);
        dueWorth("2 < 1", 0);
        dueWorth("2 = 2", 1);
        dueWorth("2 = 3", 0);
        dueWorth("least < 0", 1);
        dueWorth("least < least - 1", 1);
        dueWorth("least - 1 < least", 0);
        dueWorth("least = - least", 1);
        dueWorth("0 = - 0", 1);
        dueWorth("(1 < 2) + (1 = 1) * 10", 11);
    }

    /** "of: where a device stands; beats: the BEAT" */
    private static void ofAndBeats() {
        StationStarter s = CHECKS.made(DEVICE + "module m { static p = 0; static b = 0; p = of d; b = beats; } "
                + "demand w { order d 9; check of d = 2; check beats = 0; } demand v { m.p = of d; m.b = beats; }");
        done(s, 0, 0);
        done(s, 1, 0);
        dueRead(s, 0, 0, 2);
        dueRead(s, 0, 1, 0);
        CHECKS.due("beat(1)", s.beat(1), 1);
        done(s, 1, 0);
        dueRead(s, 0, 0, 5);
        dueRead(s, 0, 1, 1);
        CHECKS.due("beat(1000)", s.beat(1000), 1001);
        done(s, 1, 0);
        dueRead(s, 0, 0, 9);
        dueRead(s, 0, 1, 1001);
    }

    /** "kind: of the latest fault that this start, demand, closing caught, 0 ahead of one." */
    private static void kindAheadOfOne() {
        StationStarter s = CHECKS.made("module a { static k = kind; try { fail 7; } on { } static l = kind; } "
                + "module b { static k = 0; static c = 9; try { fail 2; } on { k = kind; touch a; k = k * 10 + kind; } "
                + "try { k = k + 0; } on { } k = k * 10 + kind; try { k = 1 / 0; } on { } k = k * 100 + kind; closing { c = kind; try { fail 5; } on { c = c + kind; } } } "
                + "demand w { check kind = 0; try { fail 3; } on { } touch b; check kind = 3; } demand v { check kind = 0; }");
        done(s, 0, 0);
        done(s, 1, 0);
        dueRead(s, 0, 0, 0);
        dueRead(s, 0, 1, 7);
        dueRead(s, 1, 0, 22213);
        CHECKS.due("close()", s.close(), 2);
        dueRead(s, 1, 1, 5);
    }

    /** "order: E from .. to: it is the device's goal: accepted; else REFUSED, a fault; noted .. in both cases" */
    private static void ordersFromTo() {
        StationStarter s = CHECKS.made(DEVICE + "device z from 0 to 0 pace 1; demand w { order d 2; } demand v { order d 9; } "
                + "demand u { order d 1; } demand t { order d 10; } demand r { order z 0; } demand q { order z 1; } demand p { order z - 1; } "
                + "demand o { order d 999999999 * 4; }");
        int[][] rows = {{0, 2, 1}, {0, 9, 1}, {0, 1, 0}, {0, 10, 0}, {1, 0, 1}, {1, 1, 0}, {1, -1, 0}, {0, -294967300, 0}};
        for (int d = 0; d < rows.length; d++) {
            done(s, d, rows[d][2] == 1 ? 0 : 3);
            CHECKS.due("ended(0)", s.ended(0), rows[d][2] == 1 ? 0 : 12);
            CHECKS.dueOrder(s, d, -1, rows[d][0], rows[d][1], rows[d][2]);
            CHECKS.due("device(0, 1)", CHECKS.device(s, 0, 1), d == 0 ? 2 : 9);
            CHECKS.due("device(1, 1)", CHECKS.device(s, 1, 1), 0);
        }
        CHECKS.due("device(0, 0)", CHECKS.device(s, 0, 0), 2);
        CHECKS.due("count(6)", s.count(6), rows.length);
    }

    /** "check: E is 0: CHECK, a fault." */
    private static void checksOfZero() {
        StationStarter s = CHECKS.made("demand w { check 0; } demand v { check 1; } demand u { check - 1; } demand t { check 1 - 1; } "
                + "demand r { check 65536 * 65536; } demand q { check 65536 * 32768; }");
        int[] want = {3, 0, 0, 3, 3, 0};
        for (int d = 0; d < want.length; d++) {
            done(s, d, want[d]);
            CHECKS.due("ended(0)", s.ended(0), want[d] == 3 ? 11 : 0);
        }
    }

    /** "if, while: unless 0." */
    private static void unlessZero() {
        StationStarter s = CHECKS.made("module m { static a = 0; static i = 3; if 0 { a = a + 1; } else { a = a + 10; } if - 1 { a = a + 100; } "
                + "else { a = a + 1000; } if 0 { a = 0; } while i { i = i - 1; a = a + 10000; } while 0 { a = 0; } i = - 2; "
                + "while i { i = i + 1; a = a + 100000; } } demand w { touch m; }");
        done(s, 0, 0);
        dueRead(s, 0, 0, 230110);
        dueRead(s, 0, 1, 0);
    }

    /** "FAULTS of runs are rows of kinds .. each alone; 21 BEFORE, alone; 20 START and what is behind it." */
    private static void rowsOfKinds() {
        String[] faults = {"fail 1;", "fail 9;", "check 0;", "order d 10;", "check 1 / 0;", "check 1 % 0;"};
        int[] kinds = {1, 9, 11, 12, 13, 13};
        for (int i = 0; i < faults.length; i++) {
            StationStarter s = CHECKS.made(DEVICE + "module a { " + faults[i] + " } module b { touch a; } module c on b { } module e { touch a; } "
                    + "demand w { " + faults[i] + " } demand v { touch c; } demand u { touch e; } demand t { touch e; }");
            done(s, 0, 3);
            CHECKS.dueEnded(s, kinds[i]);
            done(s, 1, 1);
            CHECKS.dueEnded(s, 20, kinds[i]);
            for (int u = 0; u < 3; u++) {
                CHECKS.dueCause(s, u, 20, kinds[i]);
            }
            done(s, 2, 2);
            CHECKS.dueEnded(s, 21);
            CHECKS.dueCause(s, 3, 21);
            done(s, 3, 2);
            CHECKS.dueEnded(s, 21);
        }
    }

    /** "A fault ends what is being done, outward, up to a try in whose first BLOCK it came up: kind is its first kind" */
    private static void upToATry() {
        StationStarter s = CHECKS.made("module m { static a = 0; try { a = 1; fail 2; a = 99; } on { a = a * 10 + kind; } "
                + "try { try { fail 3; } on { a = a * 10 + kind; fail 4; a = 99; } a = 99; } on { a = a * 10 + kind; } "
                + "try { a = a * 10; } on { a = 99; } "
                + "try { while 1 { if 1 { fail 5; } } } on { a = a * 10 + kind; } try { } on { fail 9; } } "
                + "demand w { touch m; } demand v { try { fail 1; } on { fail 6; } } demand u { try { } on { } fail 7; } "
                + "demand t { try { fail 1; } on { } try { fail 2; } on { check kind - 2; } }");
        done(s, 0, 0);
        dueRead(s, 0, 0, 123405);
        done(s, 1, 3);
        CHECKS.dueEnded(s, 6);
        done(s, 2, 3);
        CHECKS.dueEnded(s, 7);
        done(s, 3, 3);
        CHECKS.dueEnded(s, 11);
        // A try whose first BLOCK is done guards no more, nor does the one that caught.
        s = CHECKS.made("module m { static a = 0; try { } on { a = a + 1; } try { fail 1; } on { a = a + 10; } fail 3; } demand w { touch m; }");
        done(s, 0, 1);
        CHECKS.dueEnded(s, 20, 3);
        dueRead(s, 0, 0, 10);
        // As many within one another as there can be; the one of an outer start does not guard within, but behind.
        s = CHECKS.made("module m { static a = 0; " + "try { ".repeat(10) + "fail 8;" + "} on { }".repeat(10) + " a = kind; } "
                + "module n { static a = 0; " + "try { ".repeat(10) + "} on { fail 1; }".repeat(10) + " a = kind; } "
                + "demand w { touch m; touch n; } demand v { " + "try { ".repeat(9) + "fail 1;"
                + "} on { fail 2; }".repeat(8) + "} on { check kind = 2; } }");
        done(s, 0, 0);
        dueRead(s, 0, 0, 8);
        dueRead(s, 1, 0, 0);
        done(s, 1, 0);
        s = CHECKS.made("module f { static x = 4; fail 1; x = 99; } module m { static a = 0; try { touch f; a = 99; } on { a = kind; } } "
                + "demand w { touch m; }");
        done(s, 0, 0);
        dueRead(s, 1, 0, 20);
        dueRead(s, 0, 0, 4);
        state(s, 0, 3);
        state(s, 1, 2);
    }

    /** "A start that it ends: the unit has failed: with 20 and that row; with just that row if it begins with 20 or 21" */
    private static void startsThatFail() {
        StationStarter s = CHECKS.made("module m0 { fail 4; }" + times(22, "module m$ { static s = $; touch m#; s = 0; }")
                + "module n { touch m0; } demand w { touch m22; } demand v { touch n; }");
        done(s, 0, 1);
        CHECKS.dueEnded(s, 20, 4);
        for (int u = 0; u < 23; u++) {
            state(s, u, 3);
            CHECKS.dueCause(s, u, 20, 4);
            if (u > 0) {
                dueRead(s, u, 0, u);
            }
        }
        CHECKS.due("count(4)", s.count(4), 23);
        done(s, 1, 2);
        CHECKS.dueCause(s, 23, 21);
        CHECKS.due("count(4)", s.count(4), 24);
        CHECKS.due("count(3)", s.count(3), 0);
        cameUp(s);
    }

    /** "(also when it came up as its base or roles were touched)": none of its ITEMS is done then. */
    private static void basesThatFail() {
        StationStarter s = CHECKS.made("module b { check 0; } acting role r { fail 6; } acting role ok { } module m on b { static s = 1; } "
                + "module n has ok, r { static s = 1; } module o on b has r { static s = 1; } module p has r { static s = 1; } "
                + "demand w { touch m; } demand v { touch n; } demand u { touch o; } demand t { touch p; }");
        done(s, 0, 1);
        CHECKS.dueCause(s, 0, 20, 11);
        CHECKS.dueCause(s, 3, 20, 11);
        done(s, 1, 1);
        CHECKS.dueCause(s, 1, 20, 6);
        CHECKS.dueCause(s, 4, 20, 6);
        done(s, 2, 2);
        CHECKS.dueCause(s, 5, 21);
        done(s, 3, 2);
        CHECKS.dueCause(s, 6, 21);
        for (int u = 3; u < 7; u++) {
            dueRead(s, u, 0, 0);
            CHECKS.dueNeeds(s, u);
        }
        cameUp(s, 2);
    }

    /** "PLANNED: a fault that was planned for this unit and edition comes up ahead of its first ITEM." */
    private static void plannedOnes() {
        StationStarter s = CHECKS.made("acting role r { } module b { } module m on b has r { static t = 2; touch n; } module n { } "
                + "module c { } demand w { touch m; } demand v { try { touch c; } on { check kind = 20; } }");
        CHECKS.due("plan(2, 0)", s.plan(2, 0), true);
        CHECKS.due("plan(2, 2)", s.plan(2, 2), true);
        CHECKS.due("plan(4, 0)", s.plan(4, 0), true);
        done(s, 0, 1);
        CHECKS.dueEnded(s, 20, 14);
        CHECKS.dueCause(s, 2, 20, 14);
        cameUp(s, 1, 0);
        CHECKS.due("STEPS of a start that none of its ITEMS began", s.count(10), 1);
        dueRead(s, 2, 0, 0);
        CHECKS.dueNeeds(s, 2);
        state(s, 3, 0);
        CHECKS.due("heal(2)", s.heal(2), 1);
        done(s, 0, 0);
        dueRead(s, 2, 0, 2);
        CHECKS.due("heal(2)", s.heal(2), 1);
        done(s, 0, 1);
        CHECKS.dueCause(s, 2, 20, 14);
        done(s, 1, 0);
        CHECKS.dueCause(s, 4, 20, 14);
        CHECKS.due("count(12)", s.count(12), 3);
        // A try of its own does not guard against it; in the last edition, too.
        s = CHECKS.made("module m { try { } on { } } demand w { touch m; }");
        CHECKS.due("plan(0, 30)", s.plan(0, 30), true);
        for (int e = 0; e < 30; e++) {
            CHECKS.due("heal(0)", s.heal(0), 1);
        }
        done(s, 0, 1);
        CHECKS.dueCause(s, 0, 20, 14);
    }

    /** STEPS beyond the one of touch, of a unit with these ITEMS; one less does not do. */
    private static void dueSteps(String items, int want) {
        String text = DEVICE + "module m { setting k = 2; " + items + " } module n { static s = 0; } demand w { touch m; } demand v { touch n; }";
        StationStarter s = CHECKS.made(text);
        done(s, 1, 0);
        CHECKS.due("demand with all STEPS of " + items, s.demand(0, want + 1), 0);
        CHECKS.due("count(10) with " + items, s.count(10), want + 1);
        s = CHECKS.made(text);
        done(s, 1, 0);
        CHECKS.due("demand with all but one STEP of " + items, s.demand(0, want), want == 0 ? 4 : 6);
    }

    /** "STEPS: each STATEMENT and static as it begins (of while each time that its E is looked at), each PART as it is worked out" */
    private static void stepsOfEach() {
        dueSteps("", 0);
        dueSteps("setting j = 1;", 0);
        dueSteps("static a = 1;", 2);
        dueSteps("n.s = 1;", 2);
        dueSteps("touch n;", 1);
        dueSteps("order d 2;", 2);
        dueSteps("check 1;", 2);
        dueSteps("try { fail 1; } on { }", 2);
        dueSteps("try { } on { fail 1; }", 1);
        dueSteps("if 0 { fail 1; }", 2);
        dueSteps("if 1 { touch n; } else { touch n; touch n; }", 3);
        dueSteps("if 0 { touch n; } else { touch n; touch n; }", 4);
        dueSteps("while 0 { }", 2);
        dueSteps("static i = 2; while i { i = i - 1; }", 2 + 3 * 2 + 2 * 3);
        dueSteps("check 1 + 2 * 3 - 4 / 5 % 6;", 7);
        dueSteps("check 1 < 2;", 3);
        dueSteps("check 1 = 1;", 3);
        dueSteps("check (1);", 3);
        dueSteps("check ((1));", 4);
        dueSteps("check - 1;", 3);
        dueSteps("check - - (- 1);", 6);
        dueSteps("check k + m.k;", 3);
        dueSteps("check of d + kind + beats;", 4);
        dueSteps("static a = n.s;", 2);
        dueSteps("try { check 1 + (2 / 0) + 3; } on { }", 6);
    }

    /** "At most .. 24 units", "10 BLOCKS, PARTS within one another": all units come up within the deepest E of one another. */
    private static void deepestOfAll() {
        // Three numbers wait in each E for what is within: 1, 0 and 1; it tells 1 if that is 1.
        String each = "1=0+1*";
        StringBuilder text = new StringBuilder();
        for (int u = 0; u < 24; u++) {
            text.append("module m").append(u).append("{static s=1;s=").append((each + "(").repeat(9)).append(each).append('m')
                    .append((u + 1) % 24).append(".s").append(")".repeat(9)).append(";}");
        }
        text.append("demand w{check ").append((each + "(").repeat(8)).append(each).append("m0.s").append(")".repeat(8)).append(";}");
        text.append("demand v{m0.s=3;}");
        for (int inner = 0; inner < 2; inner++) {
            StationStarter s = CHECKS.made(text.toString().replace("module m23{static s=1;", "module m23{static s=1;m0.s=" + inner + ";"));
            done(s, 0, inner == 1 ? 0 : 3);
            for (int u = 0; u < 24; u++) {
                CHECKS.dueUp(s, u, 23 - u, 0, 0);
                dueRead(s, u, 0, inner);
            }
            CHECKS.due("count(5)", s.count(5), 1);
            CHECKS.dueHalf(s, 0, 23, 0, 0);
            CHECKS.due("STEPS", s.count(10), 24 * (2 + 1 + 9 * 4 + 4) + 2 + 1 + 8 * 4 + 4);
            done(s, 1, 0);
            done(s, 0, 3);
        }
    }

    /** "Where one more than told .. would begin all ends: what is coming up has failed with the one kind 22." */
    private static void oneMoreThanTold() {
        String text = "acting role r { touch c; } module b { touch a; } module a { static s = m.z; } module c { static s = 1; } "
                + "module m on b has r { static z = 5; z = z + 1; } demand w { try { touch m; } on { touch c; } }";
        // STEPS in their order: try, touch m; touch a; static s, m.z; touch c; static s, 1; static z, 5; z =, z, 1.
        int[][] failed = {{}, {}, {1, 4}, {1, 2, 4}, {1, 2, 4}, {0, 4}, {0, 3, 4}, {0, 3, 4}, {4}, {4}, {4}, {4}, {4}, {}};
        int[] ups = {0, 0, 0, 0, 0, 2, 2, 2, 4, 4, 4, 4, 4, 5};
        for (int n = 1; n <= 13; n++) {
            StationStarter s = CHECKS.made(text);
            CHECKS.due("demand(0, " + n + ")", s.demand(0, n), n < 13 ? 6 : 0);
            CHECKS.due("count(10) of " + n, s.count(10), n);
            CHECKS.due("count(9) of " + n, s.count(9), n);
            CHECKS.dueEnded(s);
            CHECKS.due("count(4) of " + n, s.count(4), failed[n].length);
            CHECKS.due("count(3) of " + n, s.count(3), ups[n]);
            for (int u : failed[n]) {
                state(s, u, 3);
                CHECKS.dueCause(s, u, 22);
            }
        }
        StationStarter s = CHECKS.made(text);
        CHECKS.due("demand(0, 5)", s.demand(0, 5), 6);
        dueRead(s, 4, 0, 0);
        done(s, 0, 0);
        CHECKS.due("kind of what had failed so: count(10)", s.count(10), 2 + 1 + 2);
    }

    /** "or than 100,000 in all": the 100,000th begins, none behind it; what has no STEP is done still. */
    private static void hundredThousandInAll() {
        StationStarter s = CHECKS.made("module m { static s = 1; } module e { } demand w { while 1 { } } demand v { touch m; } "
                + "demand u { } demand t { touch e; }");
        for (int i = 0; i < 19; i++) {
            CHECKS.due("demand(0, 5000)", s.demand(0, 5000), 6);
        }
        CHECKS.due("demand(0, 4998)", s.demand(0, 4998), 6);
        CHECKS.due("count(9)", s.count(9), 99998);
        CHECKS.due("foresee(1, 1)", s.foresee(1, 1), 0);
        CHECKS.due("count(9)", s.count(9), 99999);
        CHECKS.due("demand(1, 5000)", s.demand(1, 5000), 6);
        CHECKS.due("count(9)", s.count(9), 100000);
        CHECKS.due("count(10)", s.count(10), 1);
        CHECKS.dueCause(s, 0, 22);
        CHECKS.due("demand(2, 1)", s.demand(2, 1), 0);
        CHECKS.due("count(10)", s.count(10), 0);
        CHECKS.due("demand(3, 5000)", s.demand(3, 5000), 6);
        CHECKS.due("count(10)", s.count(10), 0);
        state(s, 1, 0);
        CHECKS.dueEnded(s);
        CHECKS.due("foresee(3, 5000)", s.foresee(3, 5000), 0);
        CHECKS.due("count(9)", s.count(9), 100000);
        CHECKS.due("station()", Feeder.station(s, "module m { } demand w { touch m; }"), 0);
        CHECKS.due("count(9) behind a new STATION", s.count(9), 100000);
        CHECKS.due("demand(0, 1)", s.demand(0, 1), 6);
        // Just enough in all.
        s = CHECKS.made("module m { static s = 1; } demand w { while 1 { } } demand v { touch m; }");
        for (int i = 0; i < 19; i++) {
            CHECKS.due("demand(0, 5000)", s.demand(0, 5000), 6);
        }
        CHECKS.due("foresee(0, 4997)", s.foresee(0, 4997), 0);
        CHECKS.due("demand(1, 3)", s.demand(1, 3), 0);
        CHECKS.due("count(9)", s.count(9), 100000);
        CHECKS.due("demand(1, 3)", s.demand(1, 3), 6);
    }

    /** "A BEAT: each device's place goes to its goal by its pace at most." */
    private static void goingToTheGoal() {
        StationStarter s = CHECKS.made(DEVICE + "device e from 0 to 999999999 pace 999999999; device f from 0 to 999999999 pace 1; "
                + "device g from 5 to 10 pace 5; demand w { order d 9; order e 999999999; order f 999999999; order g 10; } "
                + "demand v { order d 2; order e 0; order f 0; order g 6; }");
        done(s, 0, 0);
        int[][] places = {{2, 0, 0, 5}, {5, 999999999, 1, 10}, {8, 999999999, 2, 10}, {9, 999999999, 3, 10}, {9, 999999999, 4, 10}};
        for (int b = 0; b < places.length; b++) {
            for (int d = 0; d < 4; d++) {
                CHECKS.due("place of " + d + " at " + b, CHECKS.device(s, d, 0), places[b][d]);
            }
            CHECKS.due("beat(1)", s.beat(1), b + 1);
        }
        done(s, 1, 0);
        int[][] back = {{6, 0, 4, 6}, {3, 0, 3, 6}, {2, 0, 2, 6}, {2, 0, 1, 6}, {2, 0, 0, 6}, {2, 0, 0, 6}};
        for (int b = 0; b < back.length; b++) {
            CHECKS.due("beat(1)", s.beat(1), b + 6);
            for (int d = 0; d < 4; d++) {
                CHECKS.due("place of " + d + " back at " + b, CHECKS.device(s, d, 0), back[b][d]);
            }
        }
        // Many at once are as many one by one, and wrap nothing.
        done(s, 0, 0);
        CHECKS.due("beat(1000)", s.beat(1000), 1011);
        int[] far = {9, 999999999, 1000, 10};
        for (int d = 0; d < 4; d++) {
            CHECKS.due("place of " + d + " behind 1000", CHECKS.device(s, d, 0), far[d]);
        }
        done(s, 1, 0);
        CHECKS.due("beat(0)", s.beat(0), 1011);
        CHECKS.due("place behind none", CHECKS.device(s, 0, 0), 9);
        CHECKS.due("beat(1000)", s.beat(1000), 2011);
        CHECKS.due("place of f", CHECKS.device(s, 2, 0), 0);
    }

    /** "CLOSING: of all units that are up, the latest that came up first" */
    private static void latestFirst() {
        StationStarter s = CHECKS.made("module a { } module b { } module c { } module f { fail 1; } module n { } acting role r { } module e has r { } "
                + "demand w { touch a; touch b; touch c; touch e; try { touch f; } on { } }");
        done(s, 0, 0);
        CHECKS.due("heal(0)", s.heal(0), 1);
        CHECKS.due("heal(2)", s.heal(2), 1);
        CHECKS.due("plan(2, 1)", s.plan(2, 1), true);
        done(s, 0, 1);
        CHECKS.due("close()", s.close(), 4);
        int[] order = {0, 6, 5, 1};
        for (int i = 0; i < order.length; i++) {
            CHECKS.dueClosed(s, i, order[i], 0, -1);
        }
        CHECKS.dueClosed(s, 4, -1, -1);
        int[] states = {4, 4, 3, 3, 0, 4, 4};
        for (int u = 0; u < states.length; u++) {
            state(s, u, states[u]);
        }
        // All of them, each with a closing of its own that sees what was closed ahead of it.
        s = CHECKS.made("module m0 { static s = 0; }" + times(22, "module m$ { static s = 0; closing { s = m0.s; m0.s = m0.s + 1; } }")
                + "demand w { touch m0; " + times(22, "touch m$;") + "}");
        done(s, 0, 0);
        CHECKS.due("close()", s.close(), 23);
        for (int u = 1; u < 23; u++) {
            dueRead(s, u, 0, 22 - u);
            CHECKS.dueClosed(s, 22 - u, u, 0);
        }
    }

    /** "in it nothing is TOUCHED (statics are read and set as they are)" */
    private static void closingTouchesNothing() {
        StationStarter s = CHECKS.made("module d1 { static x = 1; } module f { static x = 4; fail 1; } module c { static x = 6; } "
                + "module h { static x = 3; } module m { static p = 0; setting k = 2; closing { touch d1; touch f; touch c; touch m; p = d1.x; "
                + "p = p * 10 + f.x; p = p * 10 + c.x; p = p * 10 + h.x; p = p * 10 + k; d1.x = 5; f.x = 7; c.x = 8; p = p * 10 + d1.x; } } "
                + "demand w { touch h; touch m; touch c; try { touch f; } on { } }");
        done(s, 0, 0);
        CHECKS.due("close()", s.close(), 3);
        // c is closed ahead of m, and h behind it.
        int[] order = {2, 4, 3};
        for (int i = 0; i < order.length; i++) {
            CHECKS.dueClosed(s, i, order[i], 0);
        }
        dueRead(s, 4, 0, 46325);
        int[] states = {0, 3, 4, 4, 4};
        int[] statics = {0, 7, 8, 3, 46325};
        for (int u = 0; u < 5; u++) {
            state(s, u, states[u]);
            dueRead(s, u, 0, statics[u]);
            CHECKS.dueNeeds(s, u);
        }
        cameUp(s, 3, 4, 2);
        CHECKS.due("count(5)", s.count(5), 0);
        CHECKS.dueCause(s, 1, 20, 1);
    }

    /** "a fault that ends it is noted with it; then it is closed" */
    private static void closingFaults() {
        StationStarter s = CHECKS.made(DEVICE + "module a { closing { fail 9; } } module b { closing { check 0; } } module c { closing { order d 1; } } "
                + "module e { static x = 3; closing { x = 4; x = 1 / 0; x = 5; } } module f { closing { try { fail 1; } on { } } } "
                + "module g { closing { try { fail 1; } on { fail 2; } } } module h { closing { } } module i { } "
                + "demand w { touch a; touch b; touch c; touch e; touch f; touch g; touch h; touch i; }");
        done(s, 0, 0);
        CHECKS.due("close()", s.close(), 8);
        int[] kinds = {9, 11, 12, 13, 0, 2, 0, 0};
        for (int u = 0; u < 8; u++) {
            CHECKS.dueClosed(s, 7 - u, u, kinds[u], -1);
            state(s, u, 4);
            CHECKS.dueCause(s, u);
        }
        dueRead(s, 3, 0, 4);
        CHECKS.dueOrder(s, 0, 2, 0, 1, 0);
        CHECKS.dueEnded(s);
        CHECKS.due("count(4)", s.count(4), 0);
    }

    /** "All closings have 2,000 STEPS each; one that wants more is noted with 22." */
    private static void twoThousandSteps() {
        // 332 rounds of six STEPS, three for the last look, and so many of touch.
        String loop = "static x = 0; closing { while x < 332 { x = x + 1; }";
        StationStarter s = CHECKS.made("module a { " + loop + times(5, "touch a;") + "} } module b { " + loop + times(6, "touch a;")
                + "} } module c { " + loop + times(5, "touch a;") + "} } demand w { touch a; touch b; touch c; }");
        done(s, 0, 0);
        int steps = s.count(9);
        int latest = s.count(10);
        CHECKS.due("close()", s.close(), 3);
        CHECKS.dueClosed(s, 0, 2, 0);
        CHECKS.dueClosed(s, 1, 1, 22);
        CHECKS.dueClosed(s, 2, 0, 0);
        CHECKS.due("count(9)", s.count(9), steps + 3 * 2000);
        CHECKS.due("count(10)", s.count(10), latest);
        for (int u = 0; u < 3; u++) {
            state(s, u, 4);
            CHECKS.dueCause(s, u);
        }
        // No try catches it.
        s = CHECKS.made("module a { static x = 1; closing { try { while 1 { } } on { x = 2; } } } demand w { touch a; }");
        done(s, 0, 0);
        CHECKS.due("close()", s.close(), 1);
        CHECKS.dueClosed(s, 0, 0, 22);
        dueRead(s, 0, 0, 1);
    }

    /** STEPS of closings are STEPS, too: beyond 100,000 in all each that wants one is noted with 22, and closed. */
    private static void closingBeyondAllSteps() {
        StationStarter s = CHECKS.made("module a { closing { touch a; } } module b { closing { } } module c { } "
                + "module e { closing { touch a; touch a; } } module f { closing { touch a; touch a; } } "
                + "demand w { touch a; touch b; touch c; touch e; touch f; } demand v { while 1 { } }");
        done(s, 0, 0);
        for (int i = 0; i < 19; i++) {
            done(s, 1, 6);
        }
        CHECKS.due("demand(1, 4992)", s.demand(1, 4992), 6);
        CHECKS.due("count(9)", s.count(9), 99997);
        CHECKS.due("close()", s.close(), 5);
        int[][] rows = {{4, 0}, {3, 22}, {2, 0}, {1, 0}, {0, 22}};
        for (int i = 0; i < rows.length; i++) {
            CHECKS.dueClosed(s, i, rows[i]);
            state(s, i, 4);
        }
        CHECKS.due("count(9)", s.count(9), 100000);
    }

    /** "Behind it the station is shut." */
    private static void shutBehindIt() {
        StationStarter s = CHECKS.made(DEVICE + "module a { } demand w { touch a; order d 9; } demand v { }");
        CHECKS.due("count(11)", s.count(11), 0);
        done(s, 0, 0);
        CHECKS.due("close()", s.close(), 1);
        CHECKS.due("count(11)", s.count(11), 1);
        int steps = s.count(9);
        done(s, 1, 5);
        CHECKS.due("foresee(1, 9)", s.foresee(1, 9), -1);
        CHECKS.due("heal(0)", s.heal(0), -1);
        CHECKS.due("close()", s.close(), -1);
        CHECKS.due("beat(1)", s.beat(1), 1);
        CHECKS.due("device(0, 0)", CHECKS.device(s, 0, 0), 5);
        CHECKS.due("plan(0, 0)", s.plan(0, 0), true);
        CHECKS.due("count(9)", s.count(9), steps);
        CHECKS.due("count(10)", s.count(10), 3);
        CHECKS.dueUp(s, 0, 0, 0, 0);
        CHECKS.dueClosed(s, 0, 0, 0);
    }

    /** "A unit LEANS on its base, its roles, the units that it names .., and on what these lean on." */
    private static void leaningOnAll() {
        // Through all 24, forward and backward in the text.
        StationStarter s = CHECKS.made(times(23, "module m# { touch m$; }") + "module m23 { }");
        StationStarter t = CHECKS.made("module m0 { }" + times(23, "module m$ on m# { }"));
        for (int u = 0; u < 24; u++) {
            for (int on = 0; on < 24; on++) {
                CHECKS.due("leans(" + u + ", " + on + ") forward", s.leans(u, on), u < on ? 1 : 0);
                CHECKS.due("leans(" + u + ", " + on + ") backward", t.leans(u, on), u > on ? 1 : 0);
            }
        }
        CHECKS.due("heal(23)", s.heal(23), 24);
        CHECKS.due("heal(0)", s.heal(0), 1);
        CHECKS.due("heal(0)", t.heal(0), 24);
        // Each way of naming, in what is never done, too; a device, a demand, what a demand names do not count.
        String all = "role q { static y = 1; } role r like q { setting k = 1; static x = 1; } ";
        String[] bodies = {"touch r;", "r.x = 1;", "r.y = 1;", "check r.k;", "while 0 { try { } on { if 0 { } else { touch r; } } }",
            "closing { touch r; }", "fail 1; static a = - (1 + r.x);"};
        for (String body : bodies) {
            StationStarter one = CHECKS.made(all + "module m { " + body + " } demand w { touch m; }");
            CHECKS.due("leans(2, 1) of " + body, one.leans(2, 1), 1);
            CHECKS.due("leans(2, 0) of " + body, one.leans(2, 0), 1);
            CHECKS.due("leans(1, 2) of " + body, one.leans(1, 2), 0);
        }
        StationStarter one = CHECKS.made(all + "module m { setting x = 1; static a = 1; } demand w { m.a = r.x; touch q; }");
        CHECKS.due("leans(2, 1)", one.leans(2, 1), 0);
        CHECKS.due("leans(2, 0)", one.leans(2, 0), 0);
        CHECKS.due("leans(1, 0)", one.leans(1, 0), 1);
    }
}
