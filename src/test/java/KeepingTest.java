/** Promises 7 to 11, 14, 18 and 22 to 24: plans, healing, closing, beats, and what is told of units and devices. */
public final class KeepingTest {
    private static final Checks CHECKS = new Checks();
    private static final int[] BAD = {-1, 100, Integer.MIN_VALUE, Integer.MAX_VALUE};

    public static void main(String[] args) {
        planning();
        healing();
        healingToTheEnd();
        closing();
        closingFaults();
        closingThenAnew();
        closingOrder();
        beating();
        tellingOfUnits();
        leaning();
        devices();
        counting();
        CHECKS.end();
    }

    private static void planning() {
        StationStarter s = CHECKS.made("module m { } module n { } demand w { touch m; }");
        CHECKS.due("plan(0, 0)", s.plan(0, 0), true);
        CHECKS.due("plan(0, 0)", s.plan(0, 0), true);
        CHECKS.due("count(12)", s.count(12), 1);
        CHECKS.due("plan(0, 30)", s.plan(0, 30), true);
        CHECKS.due("plan(0, 31)", s.plan(0, 31), false);
        CHECKS.due("plan(0, -1)", s.plan(0, -1), false);
        CHECKS.due("plan(2, 0)", s.plan(2, 0), false);
        for (int bad : BAD) {
            CHECKS.due("plan(" + bad + ", 0)", s.plan(bad, 0), false);
            CHECKS.due("plan(0, " + bad + ")", s.plan(0, bad), false);
        }
        for (int e = 1; e < 30; e++) {
            CHECKS.due("plan(0, " + e + ")", s.plan(0, e), true);
        }
        for (int e = 0; e < 9; e++) {
            CHECKS.due("plan(1, " + e + ")", s.plan(1, e), true);
        }
        CHECKS.due("count(12)", s.count(12), 40);
        CHECKS.due("plan(1, 9)", s.plan(1, 9), false);
        CHECKS.due("plan(1, 8)", s.plan(1, 8), true);
        CHECKS.due("demand(0, 9)", s.demand(0, 9), 1);
        CHECKS.due("count(12)", s.count(12), 40);
        s.clear();
        CHECKS.due("count(12)", s.count(12), 0);
        CHECKS.due("heal(0)", s.heal(0), 1);
        CHECKS.due("demand(0, 9)", s.demand(0, 9), 0);
        CHECKS.due("plan(1, 9)", s.plan(1, 9), true);
        CHECKS.due("plan(0, 1) of one that is up", s.plan(0, 1), true);
        CHECKS.due("demand(0, 9)", s.demand(0, 9), 0);
        s.clear();
        s.clear();
        CHECKS.due("count(12)", s.count(12), 0);
    }

    private static void healing() {
        StationStarter s = CHECKS.made("module a { static x = 1; fail 2; } module b on a { } module c { static y = b.x; } "
                + "module d { static z = 4; } demand w { touch d; touch c; }");
        CHECKS.due("demand(0, 99)", s.demand(0, 99), 1);
        CHECKS.due("heal(1)", s.heal(1), 2);
        CHECKS.due("unit(0, 0)", CHECKS.unit(s, 0, 0), 3);
        CHECKS.due("demand(0, 99)", s.demand(0, 99), 2);
        CHECKS.dueCause(s, 2, 21);
        CHECKS.due("heal(0)", s.heal(0), 3);
        int[][] rows = {{0, 1}, {0, 2}, {0, 2}, {2, 0}};
        for (int u = 0; u < 4; u++) {
            CHECKS.due("unit(" + u + ", 0)", CHECKS.unit(s, u, 0), rows[u][0]);
            CHECKS.due("unit(" + u + ", 1)", CHECKS.unit(s, u, 1), rows[u][1]);
            CHECKS.dueCause(s, u);
            CHECKS.dueNeeds(s, u);
        }
        CHECKS.due("read(0, 0)", CHECKS.read(s, 0, 0), 0);
        CHECKS.due("read(3, 0)", CHECKS.read(s, 3, 0), 4);
        CHECKS.due("heal(3)", s.heal(3), 1);
        CHECKS.due("read(3, 0)", CHECKS.read(s, 3, 0), 0);
        CHECKS.due("heal(4)", s.heal(4), -1);
        for (int bad : BAD) {
            CHECKS.due("heal(" + bad + ")", s.heal(bad), -1);
        }
        // Statics are 0 again when a new edition's start looks at them half-made.
        s = CHECKS.made("module a { static x = b.y; x = 9; } module b { static y = a.x; } demand w { touch a; }");
        CHECKS.due("demand(0, 99)", s.demand(0, 99), 0);
        CHECKS.due("heal(1)", s.heal(1), 2);
        CHECKS.due("demand(0, 99)", s.demand(0, 99), 0);
        CHECKS.due("read(1, 0)", CHECKS.read(s, 1, 0), 0);
        CHECKS.dueUp(s, 2, 1, 1, 0);
        CHECKS.dueUp(s, 3, 0, 1, 0);
        CHECKS.due("count(7)", s.count(7), 4);
        CHECKS.due("count(3)", s.count(3), 2);
        CHECKS.due("close()", s.close(), 2);
        CHECKS.due("heal(0) when shut", s.heal(0), -1);
        CHECKS.due("unit(0, 1)", CHECKS.unit(s, 0, 1), 1);
    }

    private static void healingToTheEnd() {
        StationStarter s = CHECKS.made("module a { } module b on a { } module c { } demand w { touch b; }");
        for (int e = 1; e <= 30; e++) {
            CHECKS.due("heal(1)", s.heal(1), 1);
            CHECKS.due("demand(0, 9)", s.demand(0, 9), 0);
        }
        CHECKS.due("unit(1, 1)", CHECKS.unit(s, 1, 1), 30);
        CHECKS.due("heal(1)", s.heal(1), -1);
        CHECKS.due("heal(0)", s.heal(0), -1);
        CHECKS.due("unit(0, 1)", CHECKS.unit(s, 0, 1), 0);
        CHECKS.due("unit(0, 0)", CHECKS.unit(s, 0, 0), 2);
        CHECKS.due("unit(1, 0)", CHECKS.unit(s, 1, 0), 2);
        CHECKS.due("heal(2)", s.heal(2), 1);
        // The other way round, with the first unit at the end.
        StationStarter t = CHECKS.made("module a { touch b; } module b { }");
        for (int e = 1; e <= 30; e++) {
            CHECKS.due("heal(0)", t.heal(0), 1);
        }
        CHECKS.due("heal(1)", t.heal(1), -1);
        CHECKS.due("unit(1, 1)", CHECKS.unit(t, 1, 1), 0);
        CHECKS.dueUp(s, 30, 1, 30, 0);
        CHECKS.due("count(7)", s.count(7), 31);
    }

    private static void closing() {
        StationStarter s = CHECKS.made("device d from 0 to 9 pace 1; module a { static x = 1; closing { x = 5; b.y = x + b.y; order d 4; } } "
                + "module b { static y = 2; closing { y = y + a.x * 10; } } module c { static z = 3; closing { z = 4; } } "
                + "module e { static q = 1; fail 1; } module f { static p = 0; closing { touch c; p = c.z + e.q; c.z = 7; touch e; } } "
                + "demand w { touch a; touch b; touch f; try { touch e; } on { } }");
        CHECKS.due("demand(0, 99)", s.demand(0, 99), 0);
        int steps = s.count(9);
        int latest = s.count(10);
        CHECKS.due("close()", s.close(), 3);
        CHECKS.dueClosed(s, 0, 4, 0, -1);
        CHECKS.dueClosed(s, 1, 1, 0);
        CHECKS.dueClosed(s, 2, 0, 0);
        CHECKS.dueClosed(s, 3, -1, -1);
        CHECKS.dueClosed(s, -1, -1, -1);
        CHECKS.due("closed(0, -1)", s.closed(0, -1), -1);
        int[] states = {4, 4, 0, 3, 4};
        for (int u = 0; u < states.length; u++) {
            CHECKS.due("unit(" + u + ", 0)", CHECKS.unit(s, u, 0), states[u]);
        }
        CHECKS.due("a.x", CHECKS.read(s, 0, 0), 5);
        CHECKS.due("b.y", CHECKS.read(s, 1, 0), 17);
        CHECKS.due("c.z, which is down", CHECKS.read(s, 2, 0), 0);
        CHECKS.due("e.q", CHECKS.read(s, 3, 0), 1);
        CHECKS.due("f.p", CHECKS.read(s, 4, 0), 1);
        CHECKS.dueNeeds(s, 4);
        CHECKS.dueNeeds(s, 0);
        CHECKS.due("count(5)", s.count(5), 0);
        CHECKS.dueOrder(s, 0, 0, 0, 4, 1);
        CHECKS.due("device(0, 1)", CHECKS.device(s, 0, 1), 4);
        CHECKS.due("count(9)", s.count(9), steps + 7 + 4 + 7);
        CHECKS.due("count(10)", s.count(10), latest);
        CHECKS.due("count(3)", s.count(3), 0);
        CHECKS.due("count(7)", s.count(7), 3);
        CHECKS.due("count(11)", s.count(11), 1);
        CHECKS.due("close()", s.close(), -1);
        CHECKS.due("demand(0, 99)", s.demand(0, 99), 5);
        CHECKS.due("beat(1)", s.beat(1), 1);
        CHECKS.due("device(0, 0)", CHECKS.device(s, 0, 0), 1);
        CHECKS.due("plan(0, 0)", s.plan(0, 0), true);
    }

    private static void closingFaults() {
        StationStarter s = CHECKS.made("device d from 1 to 2 pace 1; module a { static x = 0; closing { x = 1; fail 7; x = 2; } } "
                + "module b { closing { check 0; } } module c { closing { order d 0; } } module e { static x = 0; closing { while 1 { x = x + 1; } } } "
                + "module f { static x = 1; closing { x = 1 / 0; } } module g { static x = 0; closing { x = kind; try { fail 3; } on { x = kind + x; } } } "
                + "demand w { touch a; touch b; touch c; touch e; touch f; try { fail 9; } on { } touch g; }");
        CHECKS.due("demand(0, 99)", s.demand(0, 99), 0);
        int steps = s.count(9);
        CHECKS.due("close()", s.close(), 6);
        int[][] rows = {{5, 0}, {4, 13}, {3, 22}, {2, 12}, {1, 11}, {0, 7}};
        for (int i = 0; i < rows.length; i++) {
            CHECKS.dueClosed(s, i, rows[i]);
            CHECKS.due("unit(" + i + ", 0)", CHECKS.unit(s, i, 0), 4);
            CHECKS.dueCause(s, i);
        }
        CHECKS.due("a.x", CHECKS.read(s, 0, 0), 1);
        CHECKS.due("e.x", CHECKS.read(s, 3, 0), 400);
        CHECKS.due("f.x", CHECKS.read(s, 4, 0), 1);
        CHECKS.due("g.x", CHECKS.read(s, 5, 0), 3);
        CHECKS.due("count(9)", s.count(9), steps + 3 + 2 + 2 + 2000 + 3 + 7);
        CHECKS.dueOrder(s, 0, 2, 0, 0, 0);
        CHECKS.dueEnded(s);
        CHECKS.due("count(4)", s.count(4), 0);
    }

    private static void closingThenAnew() {
        StationStarter s = CHECKS.made("module a { static x = 1; closing { touch a; } } demand w { touch a; }");
        CHECKS.due("demand(0, 99)", s.demand(0, 99), 0);
        CHECKS.due("close()", s.close(), 1);
        Feeder.station(s, "module a { static x = b.y; } module b { static y = 6; } demand w { touch a; }");
        CHECKS.due("demand(0, 99)", s.demand(0, 99), 0);
        CHECKS.due("a.x", CHECKS.read(s, 0, 0), 6);
        CHECKS.due("close()", s.close(), 2);
        CHECKS.dueClosed(s, 0, 0, 0);
        CHECKS.dueClosed(s, 1, 1, 0);
    }

    private static void closingOrder() {
        // A new edition stands where it came up, and roles are closed, too.
        StationStarter s = CHECKS.made("module a { } module b { } acting role r { } module c has r { } demand w { touch a; touch b; touch c; } ");
        CHECKS.due("demand(0, 99)", s.demand(0, 99), 0);
        CHECKS.due("heal(0)", s.heal(0), 1);
        CHECKS.due("heal(1)", s.heal(1), 1);
        CHECKS.due("heal(1)", s.heal(1), 1);
        CHECKS.due("plan(1, 2)", s.plan(1, 2), true);
        CHECKS.due("demand(0, 99)", s.demand(0, 99), 1);
        CHECKS.due("close()", s.close(), 3);
        CHECKS.dueClosed(s, 0, 0, 0);
        CHECKS.dueClosed(s, 1, 3, 0);
        CHECKS.dueClosed(s, 2, 2, 0);
        CHECKS.dueClosed(s, 3, -1, -1);
        CHECKS.due("unit(1, 0)", CHECKS.unit(s, 1, 0), 3);
        CHECKS.dueCause(s, 1, 20, 14);
    }

    private static void beating() {
        StationStarter s = CHECKS.made("device d from 2 to 30 pace 7; device e from 0 to 999999999 pace 999999999; "
                + "demand w { order d 30; order e 999999999; } demand v { order d 4; } demand u { check beats = 5; }");
        CHECKS.due("beat(0)", s.beat(0), 0);
        CHECKS.due("beat(1)", s.beat(1), 1);
        CHECKS.due("device(0, 0)", CHECKS.device(s, 0, 0), 2);
        CHECKS.due("demand(0, 9)", s.demand(0, 9), 0);
        CHECKS.due("device(0, 0)", CHECKS.device(s, 0, 0), 2);
        CHECKS.due("beat(1)", s.beat(1), 2);
        CHECKS.due("device(0, 0)", CHECKS.device(s, 0, 0), 9);
        CHECKS.due("device(1, 0)", CHECKS.device(s, 1, 0), 999999999);
        CHECKS.due("beat(2)", s.beat(2), 4);
        CHECKS.due("device(0, 0)", CHECKS.device(s, 0, 0), 23);
        CHECKS.due("demand(1, 9)", s.demand(1, 9), 0);
        CHECKS.due("device(0, 1)", CHECKS.device(s, 0, 1), 4);
        CHECKS.due("beat(1)", s.beat(1), 5);
        CHECKS.due("device(0, 0)", CHECKS.device(s, 0, 0), 16);
        CHECKS.due("demand(2, 9)", s.demand(2, 9), 0);
        CHECKS.due("beat(1000)", s.beat(1000), 1005);
        CHECKS.due("device(0, 0)", CHECKS.device(s, 0, 0), 4);
        CHECKS.due("device(1, 0)", CHECKS.device(s, 1, 0), 999999999);
        CHECKS.due("beat(1001)", s.beat(1001), -1);
        CHECKS.due("beat(-1)", s.beat(-1), -1);
        CHECKS.due("beat(MIN)", s.beat(Integer.MIN_VALUE), -1);
        CHECKS.due("count(8)", s.count(8), 1005);
    }

    private static void tellingOfUnits() {
        StationStarter s = CHECKS.made("role r { setting a = 1; setting b = 2; static c = 3; } acting role q like r { } "
                + "module m { static a = 1; static b = 2; static c = 3; setting d = 4; } module n on m has r, q { }");
        int[][] rows = {{0, 0, 0, 0, -1, 0, 1, 2}, {0, 0, 0, 1, -1, 1, 0, 0}, {0, 0, 1, 0, -1, 0, 3, 1}, {0, 0, 1, 0, 2, 2, 0, 0}};
        for (int u = 0; u < rows.length; u++) {
            for (int what = 0; what < 8; what++) {
                CHECKS.due("unit(" + u + ", " + what + ")", CHECKS.unit(s, u, what), rows[u][what]);
            }
            CHECKS.due("unit(" + u + ", -1)", CHECKS.unit(s, u, -1), Checks.THROWS);
            CHECKS.due("unit(" + u + ", 8)", CHECKS.unit(s, u, 8), Checks.THROWS);
        }
        CHECKS.due("unit(4, 0)", CHECKS.unit(s, 4, 0), Checks.THROWS);
        for (int bad : BAD) {
            CHECKS.due("unit(" + bad + ", 0)", CHECKS.unit(s, bad, 0), Checks.THROWS);
            CHECKS.due("read(" + bad + ", 0)", CHECKS.read(s, bad, 0), Checks.THROWS);
            CHECKS.due("read(2, " + bad + ")", CHECKS.read(s, 2, bad), Checks.THROWS);
        }
        CHECKS.due("read(2, 2)", CHECKS.read(s, 2, 2), 0);
        CHECKS.due("read(2, 3)", CHECKS.read(s, 2, 3), Checks.THROWS);
    }

    private static void leaning() {
        StationStarter s = CHECKS.made("role r { setting k = 1; } role q like r { } module b { } module m on b has q { static t = 1; } "
                + "module n { touch m; } module o { static s = 1; closing { s = p.u; } } module p { static u = 1; o.s = 2; } "
                + "module x { static v = 1; v = v + 1; } module y { if 0 { touch x; } } demand w { touch m; }");
        String[] rows = {"000000000", "100000000", "000000000", "111000000", "111100000", "000001100", "000001100", "000000010", "000000010"};
        for (int u = 0; u < rows.length; u++) {
            for (int on = 0; on < rows.length; on++) {
                CHECKS.due("leans(" + u + ", " + on + ")", s.leans(u, on), rows[u].charAt(on) - '0');
            }
        }
        StationStarter t = CHECKS.made("module a { touch b; } module b { touch c; } module c { } module d { touch a; }");
        rows = new String[] {"0110", "0010", "0000", "1110"};
        for (int u = 0; u < rows.length; u++) {
            for (int on = 0; on < rows.length; on++) {
                CHECKS.due("leans(" + u + ", " + on + ")", t.leans(u, on), rows[u].charAt(on) - '0');
            }
        }
        CHECKS.due("leans(0, 9)", s.leans(0, 9), -1);
        CHECKS.due("leans(9, 0)", s.leans(9, 0), -1);
        for (int bad : BAD) {
            CHECKS.due("leans(0, " + bad + ")", s.leans(0, bad), -1);
            CHECKS.due("leans(" + bad + ", 0)", s.leans(bad, 0), -1);
        }
        CHECKS.due("heal(0)", s.heal(0), 4);
        CHECKS.due("heal(5)", s.heal(5), 2);
        CHECKS.due("heal(7)", s.heal(7), 2);
        CHECKS.due("heal(8)", s.heal(8), 1);
    }

    private static void devices() {
        StationStarter s = CHECKS.made("device d from 5 to 9 pace 1; device e from 0 to 0 pace 1; demand w { order d 7; }");
        CHECKS.due("device(0, 0)", CHECKS.device(s, 0, 0), 5);
        CHECKS.due("device(0, 1)", CHECKS.device(s, 0, 1), 5);
        CHECKS.due("demand(0, 9)", s.demand(0, 9), 0);
        CHECKS.due("device(0, 0)", CHECKS.device(s, 0, 0), 5);
        CHECKS.due("device(0, 1)", CHECKS.device(s, 0, 1), 7);
        CHECKS.due("device(0, 2)", CHECKS.device(s, 0, 2), Checks.THROWS);
        CHECKS.due("device(0, -1)", CHECKS.device(s, 0, -1), Checks.THROWS);
        CHECKS.due("device(2, 0)", CHECKS.device(s, 2, 0), Checks.THROWS);
        for (int bad : BAD) {
            CHECKS.due("device(" + bad + ", 0)", CHECKS.device(s, bad, 0), Checks.THROWS);
        }
    }

    private static void counting() {
        StationStarter s = CHECKS.made("device d from 0 to 9 pace 1; device e from 0 to 9 pace 1; module a { static x = b.y; order d 3; } "
                + "module b { static y = a.x; } module c { fail 1; } demand w { touch a; } demand v { touch c; }");
        CHECKS.due("demand(0, 99)", s.demand(0, 99), 0);
        CHECKS.due("demand(1, 99)", s.demand(1, 99), 1);
        CHECKS.due("beat(4)", s.beat(4), 4);
        CHECKS.due("plan(0, 5)", s.plan(0, 5), true);
        Feeder.feed(s, "abc");
        int[] want = {2, 3, 2, 2, 1, 1, 1, 2, 4, 9, 2, 0, 1, 3};
        for (int what = 0; what < want.length; what++) {
            CHECKS.due("count(" + what + ")", s.count(what), want[what]);
        }
        CHECKS.due("count(14)", s.count(14), -1);
        for (int bad : BAD) {
            CHECKS.due("count(" + bad + ")", s.count(bad), -1);
        }
        CHECKS.due("close()", s.close(), 2);
        CHECKS.due("count(11)", s.count(11), 1);
    }
}
