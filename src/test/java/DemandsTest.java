/** Promises 5, 6, 12, 13, 15, 16, 17, 19, 20 and 21: demands, what they bring up, and what is noted of it. */
public final class DemandsTest {
    private static final Checks CHECKS = new Checks();

    public static void main(String[] args) {
        answers();
        reckoning();
        branches();
        comingUp();
        halfLooks();
        failing();
        catching();
        deepest();
        planned();
        needing();
        ordering();
        steps();
        stepsInAll();
        foreseeing();
        foreseeingLeavesAll();
        CHECKS.end();
    }

    private static void answers() {
        StationStarter s = CHECKS.made("module m { fail 4; } module n { touch m; } demand none { } demand touchm { touch m; } "
                + "demand touchn { touch n; } demand checks { check 0; } demand fails { fail 9; } demand zero { check 1 / 0; }");
        CHECKS.due("demand(0, 1)", s.demand(0, 1), 0);
        CHECKS.dueEnded(s);
        CHECKS.due("demand(1, 5)", s.demand(1, 5), 1);
        CHECKS.dueEnded(s, 20, 4);
        CHECKS.due("demand(1, 5)", s.demand(1, 5), 2);
        CHECKS.dueEnded(s, 21);
        CHECKS.due("demand(2, 5)", s.demand(2, 5), 2);
        CHECKS.dueEnded(s, 21);
        CHECKS.dueCause(s, 1, 21);
        CHECKS.due("demand(3, 5)", s.demand(3, 5), 3);
        CHECKS.dueEnded(s, 11);
        CHECKS.due("demand(4, 5)", s.demand(4, 5), 3);
        CHECKS.dueEnded(s, 9);
        CHECKS.due("demand(5, 5)", s.demand(5, 5), 3);
        CHECKS.dueEnded(s, 13);
        CHECKS.due("count(10)", s.count(10), 3);
        for (int bad : new int[] {-1, 6, Integer.MIN_VALUE, Integer.MAX_VALUE}) {
            CHECKS.due("demand(" + bad + ", 5)", s.demand(bad, 5), 4);
        }
        for (int bad : new int[] {0, -1, 5001, Integer.MIN_VALUE, Integer.MAX_VALUE}) {
            CHECKS.due("demand(0, " + bad + ")", s.demand(0, bad), 4);
        }
        // What was no demand leaves the latest one as it was.
        CHECKS.dueEnded(s, 13);
        CHECKS.due("count(10)", s.count(10), 3);
        CHECKS.due("ended(-1)", s.ended(-1), 0);
        CHECKS.due("ended(MAX)", s.ended(Integer.MAX_VALUE), 0);
        CHECKS.due("demand(0, 5000)", s.demand(0, 5000), 0);
        CHECKS.dueEnded(s);
        CHECKS.due("close()", s.close(), 0);
        CHECKS.due("demand(0, 5) when shut", s.demand(0, 5), 5);
        CHECKS.due("demand(6, 5) when shut", s.demand(6, 5), 4);
        CHECKS.due("demand(0, 0) when shut", s.demand(0, 0), 4);
    }

    private static int worth(String expression) {
        StationStarter s = CHECKS.made("device d from 6 to 90 pace 1; module m { setting k = 5; setting j = - 7; static s = 3; static v = "
                + expression + "; } demand w { touch m; }");
        s.beat(12);
        CHECKS.due("demand for " + expression, s.demand(0, 100), 0);
        return CHECKS.read(s, 0, 1);
    }

    private static void reckoning() {
        Object[][] all = {{"1 + 2 * 3", 7}, {"(1 + 2) * 3", 9}, {"10 - 4 - 3", 3}, {"100 / 7 / 2", 7}, {"- 7 / 2", -3},
            {"- 7 % 2", -1}, {"7 % - 2", 1}, {"7 / - 2", -3}, {"- - 5", 5}, {"1 < 2", 1}, {"2 < 2", 0}, {"- 1 < 0", 1},
            {"2 = 2", 1}, {"2 = 3", 0}, {"1 + 1 = 2", 1}, {"(1 < 2) + (2 < 1)", 1}, {"k + j", -2}, {"m.k * m.s", 15},
            {"of d", 6}, {"beats", 12}, {"kind", 0}, {"999999999 * 4", -294967300}, {"999999999 * 999999999", 808348673},
            {"- (999999999 + 999999999 + 147483650)", -2147483648}, {"- - (999999999 + 999999999 + 147483650)", -2147483648},
            {"(0 - 999999999 - 999999999 - 147483650) / - 1", -2147483648},
            {"(0 - 999999999 - 999999999 - 147483650) % - 1", 0}, {"2 * 3 % 4", 2}, {"7 - 2 * 3 + 1", 2}, {"s - - s", 6}};
        for (Object[] row : all) {
            CHECKS.due((String) row[0], worth((String) row[0]), (Integer) row[1]);
        }
    }

    private static void branches() {
        StationStarter s = CHECKS.made("module m { static a = 0; static b = 0; static c = 0; if 2 { a = 1; } else { a = 2; } "
                + "if 0 { b = 1; } else { b = 2; } if 0 { c = 9; } while c < 5 { c = c + 2; } } demand w { touch m; }");
        CHECKS.due("demand(0, 100)", s.demand(0, 100), 0);
        CHECKS.due("a", CHECKS.read(s, 0, 0), 1);
        CHECKS.due("b", CHECKS.read(s, 0, 1), 2);
        CHECKS.due("c", CHECKS.read(s, 0, 2), 6);
    }

    private static void comingUp() {
        // Base first, then each role behind those that it is like; acting ones alone; then the ITEMS.
        StationStarter s = CHECKS.made("acting role a { } role b { } acting role c like a, b { } acting role d like c { } "
                + "module x { } module y on x has d, a { static s = 1; } module z on y { } demand w { } demand v { touch z; }");
        CHECKS.due("demand(1, 100)", s.demand(1, 100), 0);
        int[] order = {4, 0, 2, 3, 5, 6};
        for (int i = 0; i < order.length; i++) {
            CHECKS.dueUp(s, i, order[i], 0, 1, -1);
        }
        CHECKS.dueUp(s, 6, -1, -1, -1);
        CHECKS.dueUp(s, -1, -1, -1, -1);
        CHECKS.due("up(0, -1)", s.up(0, -1), -1);
        CHECKS.due("up(0, 3)", s.up(0, 3), -1);
        CHECKS.due("unit(1, 0)", CHECKS.unit(s, 1, 0), 0);
        CHECKS.due("count(3)", s.count(3), 6);
        CHECKS.due("count(7)", s.count(7), 6);
        // A role brings up none of those that it is like; what is not read is not brought up, and settings bring up nothing.
        s = CHECKS.made("acting role a { setting k = 3; } acting role b like a { static s = k; } module m { static t = 1; } "
                + "module n { static u = b.s + m.t; } demand w { touch b; } demand v { touch n; touch n; }");
        CHECKS.due("demand(0, 100)", s.demand(0, 100), 0);
        CHECKS.due("count(7)", s.count(7), 1);
        CHECKS.due("b.s", CHECKS.read(s, 1, 0), 3);
        CHECKS.due("demand(1, 100)", s.demand(1, 100), 0);
        CHECKS.dueUp(s, 0, 1, 0, 0);
        CHECKS.dueUp(s, 1, 2, 0, 1);
        CHECKS.dueUp(s, 2, 3, 0, 1);
        CHECKS.due("unit(0, 0)", CHECKS.unit(s, 0, 0), 0);
        // What is set brings its OWNER up behind E, and is set then.
        s = CHECKS.made("module m { static s = 1; } module n { static t = 2; } demand w { m.s = n.t + 5; }");
        CHECKS.due("read of one that is down", CHECKS.read(s, 0, 0), 0);
        CHECKS.due("demand(0, 100)", s.demand(0, 100), 0);
        CHECKS.dueUp(s, 0, 1);
        CHECKS.dueUp(s, 1, 0);
        CHECKS.due("m.s", CHECKS.read(s, 0, 0), 7);
        // U . NAME touches the OWNER, not U.
        s = CHECKS.made("module b { static s = 4; } module m on b { } demand w { check m.s = 4; }");
        CHECKS.due("demand(0, 100)", s.demand(0, 100), 0);
        CHECKS.due("count(7)", s.count(7), 1);
        CHECKS.dueUp(s, 0, 0);
        for (int bad : new int[] {-1, 1, Integer.MAX_VALUE}) {
            CHECKS.due("read(0, " + bad + ")", CHECKS.read(s, 0, bad), Checks.THROWS);
            CHECKS.due("read(" + (bad + 1) * 2 + ", 0)", CHECKS.read(s, bad < 0 ? bad : bad + 1, 0), Checks.THROWS);
        }
        CHECKS.due("read(1, 0)", CHECKS.read(s, 1, 0), Checks.THROWS);
    }

    private static void halfLooks() {
        StationStarter s = CHECKS.made("module a { static x = 5; static y = b.z + x; static w = 2; } module b { setting k = 3; "
                + "static z = a.x + a.y + b.k; a.w = 8; static q = a.w; } demand w { touch a; }");
        CHECKS.due("demand(0, 100)", s.demand(0, 100), 0);
        CHECKS.due("a.y", CHECKS.read(s, 0, 1), 13);
        CHECKS.due("a.w", CHECKS.read(s, 0, 2), 2);
        CHECKS.due("b.z", CHECKS.read(s, 1, 0), 8);
        CHECKS.due("b.q", CHECKS.read(s, 1, 1), 8);
        CHECKS.due("count(5)", s.count(5), 3);
        CHECKS.dueHalf(s, 0, 1, 0, 0, -1);
        CHECKS.dueHalf(s, 1, 1, 0, 1);
        CHECKS.dueHalf(s, 2, 1, 0, 2);
        CHECKS.dueHalf(s, 3, -1, -1, -1);
        CHECKS.dueHalf(s, -1, -1, -1, -1);
        CHECKS.due("half(0, -1)", s.half(0, -1), -1);
        CHECKS.dueUp(s, 0, 1);
        CHECKS.dueUp(s, 1, 0);
        // A base and its own module: the base is started with the module coming up.
        s = CHECKS.made("module b { static s = m.t; } module m on b { static t = 6; t = s; } demand w { touch m; }");
        CHECKS.due("demand(0, 100)", s.demand(0, 100), 0);
        CHECKS.dueHalf(s, 0, 0, 1, 0);
        CHECKS.due("m.t", CHECKS.read(s, 1, 0), 0);
        // The first 200 are kept, all are counted.
        s = CHECKS.made("module a { static x = b.y; } module b { static y = 0; while y < 250 { y = y + 1 + a.x; } } demand w { touch a; }");
        CHECKS.due("demand(0, 5000)", s.demand(0, 5000), 0);
        CHECKS.due("count(5)", s.count(5), 250);
        CHECKS.dueHalf(s, 199, 1, 0, 0);
        CHECKS.dueHalf(s, 200, -1, -1, -1);
    }

    private static void failing() {
        StationStarter s = CHECKS.made("module a { static x = 7; static y = 1 / 0; static z = 3; } module b on a { } "
                + "module c { static x = 2; touch b; } acting role r { check 0; } module d has r { static x = 1; } "
                + "demand w { touch c; } demand v { touch b; } demand u { check a.x; } demand t { touch d; }");
        CHECKS.due("demand(0, 100)", s.demand(0, 100), 1);
        CHECKS.dueEnded(s, 20, 13);
        CHECKS.dueCause(s, 0, 20, 13);
        CHECKS.dueCause(s, 1, 20, 13);
        CHECKS.dueCause(s, 2, 20, 13);
        CHECKS.dueCause(s, 3);
        CHECKS.due("unit(0, 0)", CHECKS.unit(s, 0, 0), 3);
        CHECKS.due("a.x", CHECKS.read(s, 0, 0), 7);
        CHECKS.due("c.x", CHECKS.read(s, 2, 0), 2);
        CHECKS.due("demand(1, 100)", s.demand(1, 100), 2);
        CHECKS.due("demand(2, 100)", s.demand(2, 100), 2);
        CHECKS.due("demand(3, 100)", s.demand(3, 100), 1);
        CHECKS.dueEnded(s, 20, 11);
        CHECKS.dueCause(s, 4, 20, 11);
        CHECKS.due("count(4)", s.count(4), 5);
        CHECKS.due("count(3)", s.count(3), 0);
        CHECKS.due("count(7)", s.count(7), 0);
        CHECKS.due("cause(-1, 0)", s.cause(-1, 0), 0);
        CHECKS.due("cause(5, 0)", s.cause(5, 0), 0);
        CHECKS.due("cause(0, -1)", s.cause(0, -1), 0);
        // A base that failed BEFORE: its module fails with that.
        s = CHECKS.made("module a { fail 2; } module b on a { } acting role r { fail 3; } module c has r { } "
                + "demand w { try { touch a; } on { } touch b; } demand v { try { touch r; } on { } touch c; }");
        CHECKS.due("demand(0, 100)", s.demand(0, 100), 2);
        CHECKS.dueCause(s, 1, 21);
        CHECKS.due("demand(1, 100)", s.demand(1, 100), 2);
        CHECKS.dueCause(s, 3, 21);
        CHECKS.dueCause(s, 2, 20, 3);
    }

    private static void catching() {
        StationStarter s = CHECKS.made("device d from 0 to 5 pace 1; module bad { fail 6; } module m { static a = kind; "
                + "try { fail 3; a = 99; } on { a = kind; } static b = kind; try { check 0; } on { try { order d 9; } on { b = kind; } } "
                + "static c = kind; try { touch bad; } on { c = kind; } static e = 0; try { touch bad; } on { e = kind; } "
                + "static f = 0; try { f = 1 % 0; } on { f = kind; } try { f = f + 0; } on { f = 0; } "
                + "try { try { fail 1; } on { fail 2; } } on { static1.g = kind; } } module static1 { static g = kind; } "
                + "demand w { touch m; check kind = 0; try { fail 5; } on { } check kind = 5; }");
        CHECKS.due("demand(0, 500)", s.demand(0, 500), 0);
        int[] want = {3, 12, 20, 21, 13};
        for (int k = 0; k < want.length; k++) {
            CHECKS.due("m's static " + k, CHECKS.read(s, 1, k), want[k]);
        }
        CHECKS.due("static1.g", CHECKS.read(s, 2, 0), 2);
        CHECKS.dueNeeds(s, 1, 0, 2);
        // What is caught has ended the starts up to there, and E is left where it was.
        s = CHECKS.made("module a { static x = 1; touch b; } module b { static y = 2; fail 1; } module c { static z = 0; "
                + "try { z = 5 + (3 * a.x); } on { z = z + 1; } z = z + 10; } demand w { touch c; }");
        CHECKS.due("demand(0, 500)", s.demand(0, 500), 0);
        CHECKS.due("c.z", CHECKS.read(s, 2, 0), 11);
        CHECKS.dueCause(s, 0, 20, 1);
        CHECKS.dueCause(s, 1, 20, 1);
        CHECKS.dueUp(s, 0, 2);
        // A try that was left guards no more, also in a loop.
        s = CHECKS.made("module m { static i = 0; while i < 30 { try { i = i + 1; } on { } } fail 4; } demand w { touch m; }");
        CHECKS.due("demand(0, 5000)", s.demand(0, 5000), 1);
        CHECKS.dueEnded(s, 20, 4);
        s = CHECKS.made("module m { static x = 0; try { try { } on { x = 1; } } on { x = 2; } fail 4; } demand w { touch m; }");
        CHECKS.due("demand(0, 50)", s.demand(0, 50), 1);
        CHECKS.due("m.x", CHECKS.read(s, 0, 0), 0);
        CHECKS.due("count(10)", s.count(10), 6);
        // Nor does one of an earlier demand.
        s = CHECKS.made("demand w { try { while 1 { } } on { } } demand v { fail 3; } demand u { touch m; } "
                + "module m { static x = 0; try { while 1 { } } on { } } module n { static x = 0; fail 2; } demand t { touch n; }");
        CHECKS.due("demand(0, 50)", s.demand(0, 50), 6);
        CHECKS.due("demand(1, 50)", s.demand(1, 50), 3);
        CHECKS.due("demand(2, 50)", s.demand(2, 50), 6);
        CHECKS.due("demand(3, 50)", s.demand(3, 50), 1);
        CHECKS.dueEnded(s, 20, 2);
        CHECKS.due("demand(0, 50)", s.demand(0, 50), 6);
        CHECKS.dueEnded(s);
        // What a fault left of an E is gone, however often.
        s = CHECKS.made("module m { static i = 0; static x = 5; while i < 330 { i = i + 1; try { x = 1 = 2 + 3 * (4 / 0); } on { } } "
                + "x = 7 - (1 + 2 * (3 - 1)); } demand w { touch m; } demand v { check 1 = 2 + 3 * (4 = 5 - 6 * (7 + 8)); }");
        for (int i = 0; i < 250; i++) {
            CHECKS.due("demand(1, 9)", s.demand(1, 9), 6);
        }
        CHECKS.due("demand(0, 5000)", s.demand(0, 5000), 0);
        CHECKS.due("m.x", CHECKS.read(s, 0, 1), 2);
    }

    /** All units are coming up at once, each in as deep an E as can be: nothing of the outer ones is lost. */
    private static void deepest() {
        StringBuilder text = new StringBuilder();
        for (int u = 0; u < 24; u++) {
            String inner = u == 23 ? "m0.s + 1" : "m" + (u + 1) + ".s";
            text.append("module m").append(u).append("{static s=2;s=");
            for (int i = 0; i < 9; i++) {
                text.append(i == 0 ? "0<1+1*(" : "1<1+2*(");
            }
            text.append("0-1+1*").append(inner).append(")))))))));}");
        }
        text.append("demand w{touch m0;}");
        CHECKS.due("the text's length is kept low", text.length() < 4000, true);
        StationStarter s = CHECKS.made(text.toString());
        CHECKS.due("foresee(0, 5000)", s.foresee(0, 5000), 24);
        CHECKS.due("demand(0, 5000)", s.demand(0, 5000), 0);
        CHECKS.due("count(7)", s.count(7), 24);
        CHECKS.due("count(5)", s.count(5), 1);
        CHECKS.dueHalf(s, 0, 23, 0, 0);
        for (int i = 0; i < 24; i++) {
            CHECKS.dueUp(s, i, 23 - i, 0, 0);
            CHECKS.due("read(" + i + ", 0)", CHECKS.read(s, i, 0), 1);
            if (i < 23) {
                CHECKS.dueNeeds(s, i, i + 1);
            }
        }
        CHECKS.dueNeeds(s, 23, 0);
        // All of them fail, from the innermost outward.
        s = CHECKS.made(text.toString().replace("m0.s + 1", "1/0"));
        CHECKS.due("demand(0, 5000)", s.demand(0, 5000), 1);
        CHECKS.dueEnded(s, 20, 13);
        CHECKS.due("count(4)", s.count(4), 24);
        s = CHECKS.made(text.toString().replace("m0.s + 1", "1/0"));
        CHECKS.due("demand(0, 300)", s.demand(0, 300), 6);
        for (int u = 0; u < 24; u++) {
            CHECKS.due("unit(" + u + ", 0)", CHECKS.unit(s, u, 0), u < 7 ? 3 : 0);
            CHECKS.due("cause(" + u + ", 0)", s.cause(u, 0), u < 7 ? 22 : 0);
            CHECKS.due("cause(" + u + ", 1)", s.cause(u, 1), 0);
        }
    }

    private static void planned() {
        StationStarter s = CHECKS.made("module b { static s = 1; } acting role r { } module m on b has r { static t = 2; } demand w { touch m; }");
        CHECKS.due("plan(2, 0)", s.plan(2, 0), true);
        CHECKS.due("demand(0, 100)", s.demand(0, 100), 1);
        CHECKS.dueEnded(s, 20, 14);
        CHECKS.dueCause(s, 2, 20, 14);
        CHECKS.dueUp(s, 0, 0);
        CHECKS.dueUp(s, 1, 1);
        CHECKS.dueUp(s, 2, -1);
        CHECKS.due("m.t", CHECKS.read(s, 2, 0), 0);
        CHECKS.due("count(12)", s.count(12), 1);
        CHECKS.due("heal(2)", s.heal(2), 1);
        CHECKS.due("demand(0, 100)", s.demand(0, 100), 0);
        CHECKS.dueUp(s, 2, 2, 1, 0);
        // For a unit without ITEMS, too, and in the role's own edition.
        CHECKS.due("heal(1)", s.heal(1), 2);
        CHECKS.due("plan(1, 1)", s.plan(1, 1), true);
        CHECKS.due("demand(0, 100)", s.demand(0, 100), 1);
        CHECKS.dueCause(s, 1, 20, 14);
        CHECKS.dueCause(s, 2, 20, 14);
    }

    private static void needing() {
        StationStarter s = CHECKS.made("role r { setting k = 1; static s = 2; } acting role q { } module b { static x = 3; } "
                + "module m on b has r, q { static t = k; touch n; t = x + r.s + t; n.y = b.x; touch m; touch q; static bad = o.z; touch p; closing { touch p; } } "
                + "module n { static y = 4; } module o { static z = 1; fail 1; } module p { } demand w { touch m; }");
        CHECKS.due("demand(0, 100)", s.demand(0, 100), 1);
        CHECKS.dueNeeds(s, 3, 0, 4, 2, 1, 5);
        CHECKS.dueNeeds(s, 4);
        CHECKS.dueNeeds(s, 0);
        CHECKS.due("need(-1, 0)", s.need(-1, 0), -1);
        CHECKS.due("need(7, 0)", s.need(7, 0), -1);
        CHECKS.due("need(3, -1)", s.need(3, -1), -1);
        CHECKS.due("heal(5)", s.heal(5), 2);
        CHECKS.dueNeeds(s, 3);
        CHECKS.due("demand(0, 100)", s.demand(0, 100), 1);
        CHECKS.dueNeeds(s, 3, 0, 4, 2, 1, 5);
        // The base and the acting roles are not NEEDED for being brought up; U . NAME needs the OWNER.
        s = CHECKS.made("module b { static x = 3; } module m on b { } module n { static y = m.x; } demand w { touch m; touch n; }");
        CHECKS.due("demand(0, 100)", s.demand(0, 100), 0);
        CHECKS.dueNeeds(s, 1);
        CHECKS.dueNeeds(s, 2, 0);
        s = CHECKS.made("module m { static a = n.x; touch o; } module n { static x = 1; } module o { static y = m.a; } demand w { touch m; }");
        CHECKS.due("demand(0, 100)", s.demand(0, 100), 0);
        CHECKS.dueNeeds(s, 0, 1, 2);
        CHECKS.dueNeeds(s, 2, 0);
        // NEEDED is noted ahead of TOUCH, behind E.
        s = CHECKS.made("module a { static x = 1; } module b { fail 1; static z = 1; } module c { b.z = a.x; } demand w { touch c; }");
        CHECKS.due("demand(0, 100)", s.demand(0, 100), 1);
        CHECKS.dueNeeds(s, 2, 0, 1);
    }

    private static void ordering() {
        StationStarter s = CHECKS.made("device d from 2 to 9 pace 3; device e from 0 to 50 pace 1; module m { order e 50; order d 2; } "
                + "demand w { touch m; order d 9; } demand v { order d 10; } demand u { order d 1; } demand t { try { order e - 1; } on { order e 1; } }");
        CHECKS.due("demand(0, 100)", s.demand(0, 100), 0);
        CHECKS.due("demand(1, 100)", s.demand(1, 100), 3);
        CHECKS.dueEnded(s, 12);
        CHECKS.due("demand(2, 100)", s.demand(2, 100), 3);
        CHECKS.due("demand(3, 100)", s.demand(3, 100), 0);
        CHECKS.dueOrder(s, 0, 0, 1, 50, 1, -1);
        CHECKS.dueOrder(s, 1, 0, 0, 2, 1);
        CHECKS.dueOrder(s, 2, -1, 0, 9, 1);
        CHECKS.dueOrder(s, 3, -1, 0, 10, 0);
        CHECKS.dueOrder(s, 4, -1, 0, 1, 0);
        CHECKS.dueOrder(s, 5, -1, 1, -1, 0);
        CHECKS.dueOrder(s, 6, -1, 1, 1, 1);
        CHECKS.dueOrder(s, 7, -1, -1, -1, -1);
        CHECKS.dueOrder(s, -1, -1, -1, -1, -1);
        CHECKS.due("order(0, -1)", s.order(0, -1), -1);
        CHECKS.due("count(6)", s.count(6), 7);
        CHECKS.due("device(0, 1)", CHECKS.device(s, 0, 1), 9);
        CHECKS.due("device(0, 0)", CHECKS.device(s, 0, 0), 2);
        CHECKS.due("device(1, 1)", CHECKS.device(s, 1, 1), 1);
        s = CHECKS.made("device d from 0 to 9 pace 3; module m { static i = 0; while i < 210 { i = i + 1; order d i % 10; } } demand w { touch m; }");
        CHECKS.due("demand(0, 5000)", s.demand(0, 5000), 0);
        CHECKS.due("count(6)", s.count(6), 210);
        CHECKS.dueOrder(s, 199, 0, 0, 0, 1);
        CHECKS.dueOrder(s, 200, -1, -1, -1, -1);
    }

    private static int used(String items) {
        StationStarter s = CHECKS.made("device d from 0 to 9 pace 1; module m { static i = 0; setting k = 2; " + items + " } demand w { touch m; }");
        CHECKS.due("demand with " + items, s.demand(0, 5000), 0);
        int used = s.count(10);
        CHECKS.due("count(9)", s.count(9), used);
        StationStarter same = CHECKS.made("device d from 0 to 9 pace 1; module m { static i = 0; setting k = 2; " + items + " } demand w { touch m; }");
        CHECKS.due("demand with as many STEPS", same.demand(0, used), 0);
        StationStarter less = CHECKS.made("device d from 0 to 9 pace 1; module m { static i = 0; setting k = 2; " + items + " } demand w { touch m; }");
        CHECKS.due("demand with one STEP less", less.demand(0, used - 1), 6);
        CHECKS.due("count(10) then", less.count(10), used - 1);
        CHECKS.dueCause(less, 0, 22);
        CHECKS.dueEnded(less);
        return used - 3;
    }

    private static void steps() {
        CHECKS.due("STEPS of nothing", used(""), 0);
        CHECKS.due("STEPS of a static", used("static a = 1;"), 2);
        CHECKS.due("STEPS of a setting", used("setting a = 1;"), 0);
        CHECKS.due("STEPS of PARTS", used("i = - (1 + k) * m.i;"), 6);
        CHECKS.due("STEPS of of, kind, beats", used("i = of d + kind + beats;"), 4);
        CHECKS.due("STEPS of touch", used("touch m;"), 1);
        CHECKS.due("STEPS of order", used("order d 5;"), 2);
        CHECKS.due("STEPS of check", used("check 1 = 1;"), 3);
        CHECKS.due("STEPS of if", used("if 0 { } else { i = 1; }"), 4);
        CHECKS.due("STEPS of while", used("while i < 2 { i = i + 1; }"), 3 * 3 + 2 * 3);
        CHECKS.due("STEPS of try", used("try { fail 1; } on { i = kind; }"), 4);
        CHECKS.due("STEPS of an empty loop", used("while 0 { }"), 2);
        // What ends so is caught by no try, and all that is coming up has failed.
        StationStarter s = CHECKS.made("module b { while 1 { } } module m on b { } module n { try { touch m; } on { } } "
                + "module z { static q = 1; } demand w { touch z; try { touch n; } on { } } demand v { while 1 { } }");
        CHECKS.due("demand(0, 50)", s.demand(0, 50), 6);
        CHECKS.due("count(10)", s.count(10), 50);
        CHECKS.dueCause(s, 0, 22);
        CHECKS.dueCause(s, 1, 22);
        CHECKS.dueCause(s, 2, 22);
        CHECKS.dueCause(s, 3);
        CHECKS.due("count(3)", s.count(3), 1);
        CHECKS.due("count(4)", s.count(4), 3);
        CHECKS.dueEnded(s);
        CHECKS.due("demand(0, 50)", s.demand(0, 50), 0);
        CHECKS.due("demand(1, 5000)", s.demand(1, 5000), 6);
        CHECKS.due("count(10)", s.count(10), 5000);
    }

    private static void stepsInAll() {
        StationStarter s = CHECKS.made("module m { static a = 0; closing { a = 1; } } module e { } module f { closing { } } "
                + "demand w { while 1 { } } demand v { touch m; touch e; touch f; } demand u { }");
        CHECKS.due("demand(1, 9)", s.demand(1, 9), 0);
        for (int i = 0; i < 19; i++) {
            CHECKS.due("demand(0, 5000)", s.demand(0, 5000), 6);
        }
        CHECKS.due("foresee(0, 4994)", s.foresee(0, 4994), 0);
        CHECKS.due("count(9)", s.count(9), 99999);
        CHECKS.due("demand(0, 5000)", s.demand(0, 5000), 6);
        CHECKS.due("count(10)", s.count(10), 1);
        CHECKS.due("count(9)", s.count(9), 100000);
        CHECKS.due("demand(0, 5000)", s.demand(0, 5000), 6);
        CHECKS.due("count(10)", s.count(10), 0);
        CHECKS.due("demand(2, 1)", s.demand(2, 1), 0);
        CHECKS.due("close()", s.close(), 3);
        CHECKS.dueClosed(s, 0, 2, 0);
        CHECKS.dueClosed(s, 1, 1, 0);
        CHECKS.dueClosed(s, 2, 0, 22);
        CHECKS.due("station()", Feeder.station(s, "module n { } module o { static a = 1; } demand w { } demand v { touch n; }"), 0);
        CHECKS.due("count(9)", s.count(9), 100000);
        CHECKS.due("demand(0, 5)", s.demand(0, 5), 0);
        CHECKS.due("demand(1, 5)", s.demand(1, 5), 6);
    }

    private static void foreseeing() {
        StationStarter s = CHECKS.made("module b { static s = 1; } module m on b { static t = n.u; } module n { static u = 2; } "
                + "module bad { touch n; fail 1; } demand w { touch m; } demand v { touch bad; } demand u { touch n; touch b; touch m; }");
        CHECKS.due("foresee(0, 100)", s.foresee(0, 100), 3);
        int[] want = {0, 2, 1, -1};
        for (int i = 0; i < want.length; i++) {
            CHECKS.due("foreseen(" + i + ")", s.foreseen(i), want[i]);
        }
        CHECKS.due("foreseen(-1)", s.foreseen(-1), -1);
        CHECKS.due("count(9)", s.count(9), 7);
        CHECKS.due("count(10)", s.count(10), 0);
        for (int[] bad : new int[][] {{-1, 5}, {3, 5}, {0, 0}, {0, 5001}, {0, -1}}) {
            CHECKS.due("foresee(" + bad[0] + ", " + bad[1] + ")", s.foresee(bad[0], bad[1]), -1);
        }
        CHECKS.due("foresee(1, 100)", s.foresee(1, 100), 1);
        CHECKS.due("foreseen(0)", s.foreseen(0), 2);
        CHECKS.due("foreseen(1)", s.foreseen(1), -1);
        CHECKS.due("foresee(0, 3)", s.foresee(0, 3), 1);
        CHECKS.due("foreseen(0)", s.foreseen(0), 0);
        CHECKS.due("demand(0, 100)", s.demand(0, 100), 0);
        CHECKS.due("foreseen(0)", s.foreseen(0), 0);
        CHECKS.due("foresee(2, 100)", s.foresee(2, 100), 0);
        CHECKS.due("foreseen(0)", s.foreseen(0), -1);
        CHECKS.due("plan(1, 1)", s.plan(1, 1), true);
        CHECKS.due("heal(1)", s.heal(1), 1);
        CHECKS.due("foresee(0, 100)", s.foresee(0, 100), 0);
        CHECKS.due("close()", s.close(), 2);
        CHECKS.due("foresee(0, 100) when shut", s.foresee(0, 100), -1);
    }

    private static void foreseeingLeavesAll() {
        StationStarter s = CHECKS.made("device d from 0 to 9 pace 1; module a { static x = b.y; order d 7; order d 99; } module b { static y = a.x; } "
                + "module c { static z = 3; } demand w { fail 3; } demand v { c.z = 8; touch a; }");
        CHECKS.due("demand(0, 9)", s.demand(0, 9), 3);
        CHECKS.due("foresee(1, 100)", s.foresee(1, 100), 2);
        CHECKS.dueEnded(s, 3);
        CHECKS.due("count(10)", s.count(10), 1);
        for (int u = 0; u < 3; u++) {
            CHECKS.due("unit(" + u + ", 0)", CHECKS.unit(s, u, 0), 0);
            CHECKS.dueCause(s, u);
            CHECKS.dueNeeds(s, u);
            CHECKS.due("read(" + u + ", 0)", CHECKS.read(s, u, 0), 0);
        }
        for (int what = 3; what < 9; what++) {
            CHECKS.due("count(" + what + ")", s.count(what), 0);
        }
        CHECKS.dueUp(s, 0, -1);
        CHECKS.dueHalf(s, 0, -1, -1, -1);
        CHECKS.dueOrder(s, 0, -1, -1, -1, -1);
        CHECKS.due("device(0, 1)", CHECKS.device(s, 0, 1), 0);
        CHECKS.due("demand(1, 100)", s.demand(1, 100), 1);
        CHECKS.due("count(5)", s.count(5), 1);
        CHECKS.due("count(6)", s.count(6), 2);
        CHECKS.due("foresee(1, 100)", s.foresee(1, 100), 0);
        CHECKS.dueCause(s, 0, 20, 12);
        CHECKS.due("read(2, 0)", CHECKS.read(s, 2, 0), 8);
        // Statics of what is up stay as they are, too, and what was NEEDED.
        s = CHECKS.made("module a { static x = 3; } module b { static y = a.x; } module c { a.x = 9; fail 2; } demand w { touch b; } demand v { a.x = 5; b.y = 6; touch c; }");
        CHECKS.due("demand(0, 100)", s.demand(0, 100), 0);
        CHECKS.due("foresee(1, 100)", s.foresee(1, 100), 0);
        CHECKS.due("a.x", CHECKS.read(s, 0, 0), 3);
        CHECKS.due("b.y", CHECKS.read(s, 1, 0), 3);
        CHECKS.dueNeeds(s, 1, 0);
        CHECKS.dueNeeds(s, 2);
        CHECKS.dueCause(s, 2);
        CHECKS.due("demand(1, 100)", s.demand(1, 100), 1);
        CHECKS.due("a.x", CHECKS.read(s, 0, 0), 9);
        CHECKS.dueNeeds(s, 2, 0);
    }
}
