import java.lang.reflect.Constructor;
import java.lang.reflect.Field;
import java.lang.reflect.Method;
import java.lang.reflect.Modifier;
import java.util.Arrays;
import java.util.TreeSet;

/**
 * The edges that promises 5 to 24 of the document name, and the face. Each test stands for one promise or one sentence of
 * it, which is told above it.
 */
public final class EdgesOfCallsTest {
    private static final Checks CHECKS = new Checks();
    private static final int[] WILD = {-1, -2, 1000, Integer.MIN_VALUE, Integer.MIN_VALUE + 1, Integer.MAX_VALUE, 1 << 24, 1 << 30};
    private static final String SMALL = "device d from 0 to 9 pace 1; module m { static s = 5; setting k = 1; } module f { fail 3; } "
            + "demand w { touch m; } demand v { touch f; } demand u { check 0; } demand t { } ";

    public static void main(String[] args) {
        theFace();
        stepsToldToDemand();
        noSuchDemand();
        answersOfDemand();
        demandWhenShut();
        ended();
        planEditions();
        planForty();
        planNoneSuch();
        clear();
        healing();
        healingLastEdition();
        healingNoneSuch();
        closing();
        beats();
        foreseeing();
        foreseeingRefused();
        foreseeingChangesNothing();
        foreseen();
        units();
        reading();
        causes();
        needs();
        leans();
        ups();
        everyUp();
        halves();
        orders();
        closed();
        devices();
        counts();
        fiveHundredCalls();
        CHECKS.end();
    }

    private static String times(int many, String row) {
        StringBuilder text = new StringBuilder();
        for (int i = 0; i < many; i++) {
            text.append(row.replace("#", String.valueOf(i)));
        }
        return text.toString();
    }

    private static void done(StationStarter s, int d, int want) {
        CHECKS.due("demand(" + d + ", 5000)", s.demand(d, 5000), want);
    }

    /** "The public face": these members, and no others that are not private. */
    private static void theFace() {
        TreeSet<String> got = new TreeSet<>();
        for (Method m : StationStarter.class.getDeclaredMethods()) {
            if (!Modifier.isPrivate(m.getModifiers())) {
                got.add(Modifier.toString(m.getModifiers()) + " " + m.getReturnType() + " " + m.getName()
                        + Arrays.toString(m.getParameterTypes()) + Arrays.toString(m.getExceptionTypes()));
            }
        }
        TreeSet<String> want = new TreeSet<>();
        String missing = "[class java.util.NoSuchElementException]";
        want.add("public int feed[long, long, long][]");
        want.add("public boolean plan[int, int][]");
        want.add("public void clear[][]");
        for (String name : new String[] {"station", "close"}) {
            want.add("public int " + name + "[][]");
        }
        for (String name : new String[] {"named", "ended", "heal", "beat", "foreseen", "count"}) {
            want.add("public int " + name + "[int][]");
        }
        for (String name : new String[] {"demand", "foresee", "cause", "need", "leans", "up", "half", "order", "closed"}) {
            want.add("public int " + name + "[int, int][]");
        }
        for (String name : new String[] {"unit", "read", "device"}) {
            want.add("public int " + name + "[int, int]" + missing);
        }
        CHECKS.due("methods of the face: " + got, got.equals(want), true);
        for (Field f : StationStarter.class.getDeclaredFields()) {
            boolean none = f.getName().equals("NONE") && Modifier.toString(f.getModifiers()).equals("public static final");
            CHECKS.due("field " + f.getName(), none || Modifier.isPrivate(f.getModifiers()), true);
        }
        CHECKS.due("NONE", StationStarter.NONE, -1);
        Constructor<?>[] made = StationStarter.class.getDeclaredConstructors();
        CHECKS.due("constructors", made.length == 1 && Modifier.isPublic(made[0].getModifiers()) && made[0].getParameterCount() == 0, true);
        CHECKS.due("the class", Modifier.toString(StationStarter.class.getModifiers()).equals("public final"), true);
    }

    /** Promise 5: "at most n STEPS (1 .. 5000)" */
    private static void stepsToldToDemand() {
        // 832 rounds of six STEPS, three for the last look, and touch: with five of these 5,000.
        String loop = "module m { static s = 0; } demand up { touch m; } demand w { m.s = 0; while m.s < 831 { m.s = m.s + 1; } ";
        for (int more = 9; more <= 10; more++) {
            StationStarter s = CHECKS.made(loop + times(more, "touch m;") + "}");
            done(s, 0, 0);
            CHECKS.due("demand(1, 5000)", s.demand(1, 5000), more == 9 ? 0 : 6);
            CHECKS.due("count(10)", s.count(10), 5000);
            CHECKS.due("demand(1, 4999)", s.demand(1, 4999), 6);
            CHECKS.due("count(10)", s.count(10), 4999);
        }
        StationStarter s = CHECKS.made(SMALL);
        CHECKS.due("demand(0, 1)", s.demand(0, 1), 6);
        CHECKS.due("heal(0)", s.heal(0), 1);
        CHECKS.due("demand(0, 2)", s.demand(0, 2), 6);
        CHECKS.due("heal(0)", s.heal(0), 1);
        CHECKS.due("demand(0, 3)", s.demand(0, 3), 0);
        CHECKS.due("demand(0, 1)", s.demand(0, 1), 0);
        CHECKS.due("demand(3, 1)", s.demand(3, 1), 0);
        CHECKS.due("count(10)", s.count(10), 0);
    }

    /** Promise 5: "4 no such demand, another n": nothing is done, and the latest demand stays. */
    private static void noSuchDemand() {
        StationStarter s = CHECKS.made(SMALL);
        done(s, 1, 1);
        int steps = s.count(9);
        for (int d : new int[] {-1, 4, 20, Integer.MIN_VALUE, Integer.MAX_VALUE}) {
            CHECKS.due("demand(" + d + ", 9)", s.demand(d, 9), 4);
        }
        for (int n : new int[] {0, -1, 5001, 100000, Integer.MIN_VALUE, Integer.MAX_VALUE}) {
            CHECKS.due("demand(0, " + n + ")", s.demand(0, n), 4);
        }
        CHECKS.dueEnded(s, 20, 3);
        CHECKS.due("count(9)", s.count(9), steps);
        CHECKS.due("count(10)", s.count(10), steps);
        CHECKS.due("unit(0, 0)", CHECKS.unit(s, 0, 0), 0);
    }

    /** Promise 5: "0 done; 1 a fault 20 ended it, 2: 21, 3: another one; .. 6 no more STEPS." */
    private static void answersOfDemand() {
        StationStarter s = CHECKS.made(SMALL);
        done(s, 0, 0);
        CHECKS.dueEnded(s);
        done(s, 1, 1);
        CHECKS.dueEnded(s, 20, 3);
        done(s, 1, 2);
        CHECKS.dueEnded(s, 21);
        done(s, 2, 3);
        CHECKS.dueEnded(s, 11);
        CHECKS.due("demand(2, 1)", s.demand(2, 1), 6);
        CHECKS.dueEnded(s);
        done(s, 3, 0);
        CHECKS.dueEnded(s);
    }

    /** Promise 5: "5 the station is shut" */
    private static void demandWhenShut() {
        StationStarter s = CHECKS.made(SMALL);
        done(s, 2, 3);
        CHECKS.due("close()", s.close(), 0);
        done(s, 0, 5);
        CHECKS.due("demand(0, 1)", s.demand(0, 1), 5);
        CHECKS.due("demand(4, 1)", s.demand(4, 1), 4);
        CHECKS.due("demand(0, 5001)", s.demand(0, 5001), 4);
        CHECKS.dueEnded(s, 11);
        CHECKS.due("count(10)", s.count(10), 2);
        CHECKS.due("unit(0, 0)", CHECKS.unit(s, 0, 0), 0);
    }

    /** Promise 6: "0 behind those, without one." */
    private static void ended() {
        StationStarter s = CHECKS.made(SMALL);
        CHECKS.dueEnded(s);
        done(s, 1, 1);
        CHECKS.dueEnded(s, 20, 3);
        for (int i : WILD) {
            CHECKS.due("ended(" + i + ")", s.ended(i), 0);
        }
        CHECKS.due("ended(2)", s.ended(2), 0);
        done(s, 3, 0);
        CHECKS.dueEnded(s);
        CHECKS.due("heal(1)", s.heal(1), 1);
        CHECKS.due("foresee(1, 9)", s.foresee(1, 9), 0);
        CHECKS.dueEnded(s);
    }

    /** Promise 7: "in an edition (0 .. 30): true, also if it was": of the past and of those to come. */
    private static void planEditions() {
        StationStarter s = CHECKS.made(SMALL);
        for (int e = -2; e < 64; e++) {
            boolean good = e >= 0 && e <= 30;
            CHECKS.due("plan(0, " + e + ")", s.plan(0, e), good);
            CHECKS.due("plan(0, " + e + ") again", s.plan(0, e), good);
            CHECKS.due("count(12)", s.count(12), Math.max(0, Math.min(31, e + 1)));
        }
        CHECKS.due("heal(0)", s.heal(0), 1);
        s.clear();
        CHECKS.due("plan(0, 0) of the past", s.plan(0, 0), true);
        done(s, 0, 0);
        CHECKS.due("plan(0, 1) of one that is up", s.plan(0, 1), true);
        done(s, 0, 0);
        CHECKS.due("plan(0, 2) of one to come", s.plan(0, 2), true);
        CHECKS.due("heal(0)", s.heal(0), 1);
        done(s, 0, 1);
        CHECKS.dueCause(s, 0, 20, 14);
        CHECKS.due("count(12)", s.count(12), 3);
    }

    /** Promise 7: "false: .. 40 others are planned." */
    private static void planForty() {
        StationStarter s = CHECKS.made(times(24, "module m#{}") + "demand w { touch m23; }");
        for (int i = 0; i < 39; i++) {
            CHECKS.due("plan " + i, s.plan(i % 24, i / 24), true);
        }
        CHECKS.due("count(12)", s.count(12), 39);
        CHECKS.due("plan(23, 30), the 40th", s.plan(23, 30), true);
        CHECKS.due("count(12)", s.count(12), 40);
        CHECKS.due("plan(23, 29), the 41st", s.plan(23, 29), false);
        CHECKS.due("plan(0, 30), the 41st", s.plan(0, 30), false);
        for (int i = 0; i < 39; i++) {
            CHECKS.due("plan " + i + " again", s.plan(i % 24, i / 24), true);
        }
        CHECKS.due("plan(23, 30) again", s.plan(23, 30), true);
        CHECKS.due("count(12)", s.count(12), 40);
        done(s, 0, 1);
        CHECKS.due("a fault that came up stays planned: plan(23, 29)", s.plan(23, 29), false);
    }

    /** Promise 7: "false: none such" */
    private static void planNoneSuch() {
        StationStarter s = CHECKS.made(SMALL);
        CHECKS.due("plan(2, 0)", s.plan(2, 0), false);
        for (int bad : WILD) {
            CHECKS.due("plan(" + bad + ", 0)", s.plan(bad, 0), false);
            CHECKS.due("plan(0, " + bad + ")", s.plan(0, bad), false);
        }
        CHECKS.due("plan(0, 31)", s.plan(0, 31), false);
        CHECKS.due("plan(0, 32)", s.plan(0, 32), false);
        CHECKS.due("plan(-1, -1)", s.plan(-1, -1), false);
        CHECKS.due("count(12)", s.count(12), 0);
        done(s, 0, 0);
    }

    /** Promise 8: "No faults are planned." */
    private static void clear() {
        StationStarter s = CHECKS.made(times(2, "module m#{}") + "demand w { touch m0; touch m1; }");
        s.clear();
        CHECKS.due("count(12)", s.count(12), 0);
        for (int round = 0; round < 2; round++) {
            for (int i = 0; i < 40; i++) {
                CHECKS.due("plan " + i, s.plan(i % 2, i / 2), true);
            }
            CHECKS.due("plan(0, 30)", s.plan(0, 30), false);
            s.clear();
            CHECKS.due("count(12)", s.count(12), 0);
        }
        done(s, 0, 0);
        CHECKS.due("close()", s.close(), 2);
        CHECKS.due("plan(0, 0)", s.plan(0, 0), true);
        s.clear();
        CHECKS.due("count(12) when shut", s.count(12), 0);
    }

    /** Promise 9: "New editions, one higher, of a unit and of all that lean on it: they are down, statics 0, nothing is NEEDED by them" */
    private static void healing() {
        StationStarter s = CHECKS.made("device d from 0 to 9 pace 1; module a { static x = 1; order d 5; } module b { static y = a.x; } module c on b { static z = 3; } "
                + "module e { static v = 4; } module f { touch a; touch e; fail 6; } module g { touch f; } "
                + "demand w { touch c; touch e; try { touch g; } on { } }");
        // Down ones, too, get a new edition.
        CHECKS.due("heal(5)", s.heal(5), 1);
        done(s, 0, 0);
        CHECKS.due("heal(0)", s.heal(0), 5);
        int[] editions = {1, 1, 1, 0, 1, 2};
        for (int u = 0; u < 6; u++) {
            CHECKS.due("unit(" + u + ", 1)", CHECKS.unit(s, u, 1), editions[u]);
            CHECKS.due("unit(" + u + ", 0)", CHECKS.unit(s, u, 0), u == 3 ? 2 : 0);
            CHECKS.dueCause(s, u);
            CHECKS.dueNeeds(s, u);
        }
        int[] statics = {0, 0, 0, 4};
        for (int u = 0; u < 4; u++) {
            CHECKS.due("read(" + u + ", 0)", CHECKS.read(s, u, 0), statics[u]);
        }
        // The books, devices and STEPS stay.
        CHECKS.due("count(7)", s.count(7), 4);
        CHECKS.due("count(6)", s.count(6), 1);
        CHECKS.due("device(0, 1)", CHECKS.device(s, 0, 1), 5);
        CHECKS.due("count(3)", s.count(3), 1);
        CHECKS.due("count(4)", s.count(4), 0);
        done(s, 0, 0);
        CHECKS.due("count(7)", s.count(7), 7);
        CHECKS.dueNeeds(s, 4, 0, 3);
        CHECKS.dueCause(s, 4, 20, 6);
        // Statics are 0 again for what sees them half-made.
        StationStarter t = CHECKS.made("module a { static x = b.y; x = 9; } module b { static y = a.x; } demand w { touch a; }");
        done(t, 0, 0);
        CHECKS.due("heal(1)", t.heal(1), 2);
        done(t, 0, 0);
        CHECKS.due("read(1, 0) of a new edition", CHECKS.read(t, 1, 0), 0);
        CHECKS.due("read(0, 0) of a new edition", CHECKS.read(t, 0, 0), 9);
        // One that failed stays failed when only what leans on it is healed.
        CHECKS.due("heal(5)", s.heal(5), 1);
        CHECKS.due("unit(4, 0)", CHECKS.unit(s, 4, 0), 3);
        done(s, 0, 0);
        CHECKS.dueCause(s, 5, 21);
    }

    /** Promise 9: "NONE: .. an edition would be 31.": then none of them is healed. */
    private static void healingLastEdition() {
        StationStarter s = CHECKS.made("module a { static x = 7; } module b { touch a; } module c { touch b; } module e { } demand w { touch c; }");
        for (int e = 1; e <= 30; e++) {
            CHECKS.due("heal(1)", s.heal(1), 2);
        }
        done(s, 0, 0);
        for (int u = 0; u < 3; u++) {
            CHECKS.due("heal(" + u + ")", s.heal(u), -1);
        }
        int[] editions = {0, 30, 30, 0};
        for (int u = 0; u < 4; u++) {
            CHECKS.due("unit(" + u + ", 1)", CHECKS.unit(s, u, 1), editions[u]);
            CHECKS.due("unit(" + u + ", 0)", CHECKS.unit(s, u, 0), u < 3 ? 2 : 0);
        }
        CHECKS.due("read(0, 0)", CHECKS.read(s, 0, 0), 7);
        CHECKS.dueNeeds(s, 1, 0);
        CHECKS.dueUp(s, 2, 2, 30, 0);
        CHECKS.due("heal(3)", s.heal(3), 1);
        // Whichever of them it is that has come to the end: the first, or the one that is healed.
        for (int last = 0; last < 3; last++) {
            StationStarter t = CHECKS.made("module c { touch b; } module b { touch a; } module a { }");
            for (int e = 1; e <= 30; e++) {
                CHECKS.due("heal(" + last + ")", t.heal(last), last + 1);
            }
            for (int u = 0; u < 3; u++) {
                CHECKS.due("heal(" + u + ")", t.heal(u), -1);
                CHECKS.due("unit(" + u + ", 1)", CHECKS.unit(t, u, 1), u <= last ? 30 : 0);
            }
        }
    }

    /** Promise 9: "NONE: no such unit, shut" */
    private static void healingNoneSuch() {
        StationStarter s = CHECKS.made(SMALL);
        done(s, 1, 1);
        CHECKS.due("heal(2)", s.heal(2), -1);
        for (int bad : WILD) {
            CHECKS.due("heal(" + bad + ")", s.heal(bad), -1);
        }
        CHECKS.due("close()", s.close(), 0);
        CHECKS.due("heal(1)", s.heal(1), -1);
        CHECKS.due("unit(1, 0)", CHECKS.unit(s, 1, 0), 3);
        CHECKS.due("unit(1, 1)", CHECKS.unit(s, 1, 1), 0);
    }

    /** Promise 10: "how many were closed; NONE if the station is shut." */
    private static void closing() {
        StationStarter s = CHECKS.made(times(24, "module m#{}") + "demand w { " + times(24, "touch m#;") + "}");
        done(s, 0, 0);
        CHECKS.due("close()", s.close(), 24);
        CHECKS.due("close()", s.close(), -1);
        CHECKS.due("close()", s.close(), -1);
        CHECKS.dueClosed(s, 23, 0, 0);
        CHECKS.dueClosed(s, 24, -1, -1);
        CHECKS.due("count(3)", s.count(3), 0);
        s = CHECKS.made(SMALL);
        CHECKS.due("close() of none that is up", s.close(), 0);
        CHECKS.due("count(11)", s.count(11), 1);
        CHECKS.due("close()", s.close(), -1);
        CHECKS.due("a refused station()", Feeder.station(s, "x"), 1);
        CHECKS.due("close()", s.close(), -1);
        CHECKS.due("station()", Feeder.station(s, SMALL), 0);
        CHECKS.due("close()", s.close(), 0);
    }

    /** Promise 11: "n BEATS (0 .. 1000): the BEAT; NONE for another n." */
    private static void beats() {
        StationStarter s = CHECKS.made("device d from 0 to 999999 pace 1; demand w { order d 999999; }");
        done(s, 0, 0);
        CHECKS.due("beat(0)", s.beat(0), 0);
        CHECKS.due("beat(1000)", s.beat(1000), 1000);
        CHECKS.due("beat(999)", s.beat(999), 1999);
        for (int n : new int[] {-1, 1001, 1002, -1000, Integer.MIN_VALUE, Integer.MAX_VALUE, 65536}) {
            CHECKS.due("beat(" + n + ")", s.beat(n), -1);
        }
        CHECKS.due("count(8)", s.count(8), 1999);
        CHECKS.due("device(0, 0)", CHECKS.device(s, 0, 0), 1999);
        CHECKS.due("beat(0)", s.beat(0), 1999);
        for (int i = 1; i <= 400; i++) {
            CHECKS.due("beat(1000)", s.beat(1000), 1999 + 1000 * i);
        }
        CHECKS.due("device(0, 0)", CHECKS.device(s, 0, 0), 401999);
        CHECKS.due("close()", s.close(), 0);
        CHECKS.due("beat(1) when shut", s.beat(1), 402000);
    }

    /** Promise 12: "What a demand would bring up now, with n STEPS: how many units" */
    private static void foreseeing() {
        StationStarter s = CHECKS.made("module a { static s = 1; } module b on a { static t = 1; } module f { touch a; fail 1; } "
                + "demand w { touch b; } demand v { touch f; } demand u { } demand t { touch f; touch b; }");
        int[] ups = {0, 0, 1, 1, 2};
        for (int n = 1; n <= 5; n++) {
            CHECKS.due("foresee(0, " + n + ")", s.foresee(0, n), ups[n - 1]);
            CHECKS.due("foreseen(0)", s.foreseen(0), ups[n - 1] > 0 ? 0 : -1);
            CHECKS.due("foreseen(1)", s.foreseen(1), ups[n - 1] > 1 ? 1 : -1);
        }
        CHECKS.due("count(9)", s.count(9), 1 + 2 + 3 + 4 + 5);
        CHECKS.due("foresee(0, 5000)", s.foresee(0, 5000), 2);
        CHECKS.due("foresee(1, 5000)", s.foresee(1, 5000), 1);
        CHECKS.due("foresee(2, 1)", s.foresee(2, 1), 0);
        CHECKS.due("foresee(3, 5000)", s.foresee(3, 5000), 1);
        CHECKS.due("plan(0, 0)", s.plan(0, 0), true);
        CHECKS.due("foresee(0, 5000)", s.foresee(0, 5000), 0);
        s.clear();
        done(s, 0, 0);
        CHECKS.due("foresee(0, 5000) of what is up", s.foresee(0, 5000), 0);
        CHECKS.due("heal(1)", s.heal(1), 1);
        CHECKS.due("foresee(0, 5000)", s.foresee(0, 5000), 1);
        CHECKS.due("foreseen(0)", s.foreseen(0), 1);
        s = CHECKS.made(times(24, "module m#{}") + "demand w { " + times(24, "touch m#;") + "}");
        CHECKS.due("foresee(0, 24)", s.foresee(0, 24), 24);
        CHECKS.due("foreseen(23)", s.foreseen(23), 23);
        CHECKS.due("foresee(0, 23)", s.foresee(0, 23), 23);
        CHECKS.due("foreseen(23)", s.foreseen(23), -1);
    }

    /** Promise 12: "NONE as demand() tells 4 or 5.": the list and STEPS stay, too. */
    private static void foreseeingRefused() {
        StationStarter s = CHECKS.made(SMALL);
        CHECKS.due("foresee(0, 3)", s.foresee(0, 3), 1);
        for (int d : new int[] {-1, 4, 20, Integer.MIN_VALUE, Integer.MAX_VALUE}) {
            CHECKS.due("foresee(" + d + ", 9)", s.foresee(d, 9), -1);
        }
        for (int n : new int[] {0, -1, 5001, Integer.MIN_VALUE, Integer.MAX_VALUE}) {
            CHECKS.due("foresee(0, " + n + ")", s.foresee(0, n), -1);
        }
        CHECKS.due("close()", s.close(), 0);
        CHECKS.due("foresee(0, 3) when shut", s.foresee(0, 3), -1);
        CHECKS.due("foreseen(0)", s.foreseen(0), 0);
        CHECKS.due("foreseen(1)", s.foreseen(1), -1);
        CHECKS.due("count(9)", s.count(9), 3);
    }

    /** Promise 12: "nothing changes, but the list of foreseen(), and STEPS, which count (all, not the latest demand's)" */
    private static void foreseeingChangesNothing() {
        StationStarter s = CHECKS.made("device d from 0 to 9 pace 1; module a { static x = 1; static y = b.z; order d 4; } module b { static z = a.x; } "
                + "module f { fail 8; } module g { static v = 2; } demand w { g.v = 6; touch a; order d 10; } demand v { touch g; fail 2; } "
                + "demand u { a.x = 5; try { touch f; } on { } while 1 { } }");
        done(s, 1, 3);
        int latest = s.count(10);
        int[] want = new int[14];
        for (int what = 0; what < 14; what++) {
            want[what] = s.count(what);
        }
        CHECKS.due("foresee(0, 500)", s.foresee(0, 500), 2);
        CHECKS.due("foresee(2, 500)", s.foresee(2, 500), 2);
        CHECKS.due("foresee(2, 2)", s.foresee(2, 2), 0);
        for (int what = 0; what < 14; what++) {
            if (what != 9) {
                CHECKS.due("count(" + what + ")", s.count(what), want[what]);
            }
        }
        CHECKS.due("count(9)", s.count(9), latest + 13 + 500 + 2);
        CHECKS.dueEnded(s, 2);
        int[] states = {0, 0, 0, 2};
        for (int u = 0; u < 4; u++) {
            CHECKS.due("unit(" + u + ", 0)", CHECKS.unit(s, u, 0), states[u]);
            CHECKS.due("unit(" + u + ", 1)", CHECKS.unit(s, u, 1), 0);
            CHECKS.dueCause(s, u);
            CHECKS.dueNeeds(s, u);
        }
        CHECKS.due("read(3, 0)", CHECKS.read(s, 3, 0), 2);
        CHECKS.due("device(0, 1)", CHECKS.device(s, 0, 1), 0);
        CHECKS.dueUp(s, 1, -1, -1, -1);
        CHECKS.dueHalf(s, 0, -1, -1, -1);
        CHECKS.dueOrder(s, 0, -1, -1, -1, -1);
        done(s, 0, 3);
        CHECKS.due("a.y", CHECKS.read(s, 0, 1), 1);
        CHECKS.dueHalf(s, 0, 1, 0, 0);
        // Statics that a foreseen start set are 0 again for the start that comes.
        s = CHECKS.made("module a { static x = b.y + 1; } module b { static y = a.x; } demand w { touch a; }");
        CHECKS.due("foresee(0, 99)", s.foresee(0, 99), 2);
        CHECKS.due("foresee(0, 99)", s.foresee(0, 99), 2);
        done(s, 0, 0);
        CHECKS.due("read(1, 0)", CHECKS.read(s, 1, 0), 0);
        CHECKS.due("count(5)", s.count(5), 1);
    }

    /** Promise 13: "The i-th unit of that list (0 the first that came up); NONE." */
    private static void foreseen() {
        StationStarter s = CHECKS.made("module a { touch b; } module b { touch c; } module c { } demand w { touch a; } demand v { }");
        CHECKS.due("foreseen(0) ahead of any", s.foreseen(0), -1);
        CHECKS.due("foresee(0, 9)", s.foresee(0, 9), 3);
        for (int round = 0; round < 2; round++) {
            int[] want = {2, 1, 0, -1};
            for (int i = 0; i < want.length; i++) {
                CHECKS.due("foreseen(" + i + ")", s.foreseen(i), want[i]);
            }
            for (int i : WILD) {
                CHECKS.due("foreseen(" + i + ")", s.foreseen(i), -1);
            }
            done(s, 0, 0);
        }
        CHECKS.due("foresee(1, 1)", s.foresee(1, 1), 0);
        CHECKS.due("foreseen(0)", s.foreseen(0), -1);
    }

    /** Promise 14: what 0 to 7 of each unit; "NoSuchElementException: none such." */
    private static void units() {
        StationStarter s = CHECKS.made("role r { } acting role q like r { static a = 1; } module b { setting a = 1; setting c = 2; } "
                + "module m on b has q, r { static a = 1; static c = 2; setting e = 3; }");
        int[][] rows = {{0, 0, 0, 0, -1, 0, 0, 0}, {0, 0, 0, 1, -1, 1, 1, 0}, {0, 0, 1, 0, -1, 0, 0, 2}, {0, 0, 1, 0, 2, 2, 2, 1}};
        for (int u = 0; u < 4; u++) {
            for (int what = 0; what < 8; what++) {
                CHECKS.due("unit(" + u + ", " + what + ")", CHECKS.unit(s, u, what), rows[u][what]);
            }
            CHECKS.due("unit(" + u + ", 8)", CHECKS.unit(s, u, 8), Checks.THROWS);
            for (int bad : WILD) {
                CHECKS.due("unit(" + u + ", " + bad + ")", CHECKS.unit(s, u, bad), Checks.THROWS);
            }
        }
        for (int what = -1; what < 9; what++) {
            CHECKS.due("unit(4, " + what + ")", CHECKS.unit(s, 4, what), Checks.THROWS);
            for (int bad : WILD) {
                CHECKS.due("unit(" + bad + ", " + what + ")", CHECKS.unit(s, bad, what), Checks.THROWS);
            }
        }
    }

    /** Promise 15: "A unit's static k (as they are told) as it is, 0 when it is down; nothing is touched." */
    private static void reading() {
        StationStarter s = CHECKS.made("module m { static a = 1; setting k = 9; " + times(6, "static b# = 1# + a;") + " } "
                + "module n { setting k = 1; } module f { static z = 4; fail 1; } demand w { touch m; try { touch f; } on { } }");
        for (int k = 0; k < 7; k++) {
            CHECKS.due("read(0, " + k + ")", CHECKS.read(s, 0, k), 0);
        }
        CHECKS.due("unit(0, 0)", CHECKS.unit(s, 0, 0), 0);
        done(s, 0, 0);
        for (int k = 0; k < 7; k++) {
            CHECKS.due("read(0, " + k + ")", CHECKS.read(s, 0, k), k == 0 ? 1 : 10 + k);
        }
        CHECKS.due("read(0, 7)", CHECKS.read(s, 0, 7), Checks.THROWS);
        CHECKS.due("read(1, 0)", CHECKS.read(s, 1, 0), Checks.THROWS);
        CHECKS.due("read(2, 0) of what failed", CHECKS.read(s, 2, 0), 4);
        CHECKS.due("read(3, 0)", CHECKS.read(s, 3, 0), Checks.THROWS);
        for (int bad : WILD) {
            CHECKS.due("read(0, " + bad + ")", CHECKS.read(s, 0, bad), Checks.THROWS);
            CHECKS.due("read(" + bad + ", 0)", CHECKS.read(s, bad, 0), Checks.THROWS);
        }
        CHECKS.due("close()", s.close(), 1);
        CHECKS.due("read(0, 6) of what is closed", CHECKS.read(s, 0, 6), 16);
        // All eight.
        s = CHECKS.made("module l { } module m { " + times(8, "static b# = #;") + " } module n { static c = 9; } demand w { touch n; touch m; }");
        done(s, 0, 0);
        for (int k = 0; k < 8; k++) {
            CHECKS.due("read(1, " + k + ")", CHECKS.read(s, 1, k), k);
        }
        CHECKS.due("read(1, 8)", CHECKS.read(s, 1, 8), Checks.THROWS);
        CHECKS.due("read(0, 8)", CHECKS.read(s, 0, 8), Checks.THROWS);
        CHECKS.due("read(2, 0)", CHECKS.read(s, 2, 0), 9);
        CHECKS.due("heal(1)", s.heal(1), 1);
        CHECKS.due("read(1, 7) of what is down again", CHECKS.read(s, 1, 7), 0);
        CHECKS.due("read(2, 0)", CHECKS.read(s, 2, 0), 9);
    }

    /** Promise 16: "(0 the first); 0 behind those, or if it has not." */
    private static void causes() {
        StationStarter s = CHECKS.made("module m { } module f { fail 7; } module g { touch f; } module h { while 1 { } } "
                + "demand w { touch m; try { touch f; } on { } touch g; } demand v { touch h; }");
        for (int u = -1; u < 5; u++) {
            CHECKS.dueCause(s, u);
        }
        done(s, 0, 2);
        done(s, 1, 6);
        CHECKS.dueCause(s, 0);
        CHECKS.dueCause(s, 1, 20, 7);
        CHECKS.dueCause(s, 2, 21);
        CHECKS.dueCause(s, 3, 22);
        for (int bad : WILD) {
            CHECKS.due("cause(1, " + bad + ")", s.cause(1, bad), 0);
            CHECKS.due("cause(" + bad + ", 0)", s.cause(bad, 0), 0);
        }
        CHECKS.dueCause(s, 4);
        CHECKS.due("close()", s.close(), 1);
        CHECKS.dueCause(s, 1, 20, 7);
    }

    /** Promise 17: "The i-th unit NEEDED by a unit's start, in this edition; NONE." */
    private static void needs() {
        StationStarter s = CHECKS.made("module a { touch b; touch c; touch b; } module b { } module c { fail 1; } demand w { touch a; }");
        CHECKS.dueNeeds(s, 0);
        done(s, 0, 1);
        CHECKS.dueNeeds(s, 0, 1, 2);
        CHECKS.dueNeeds(s, 1);
        for (int bad : WILD) {
            CHECKS.due("need(0, " + bad + ")", s.need(0, bad), -1);
            CHECKS.due("need(" + bad + ", 0)", s.need(bad, 0), -1);
        }
        CHECKS.due("need(3, 0)", s.need(3, 0), -1);
        CHECKS.due("heal(2)", s.heal(2), 2);
        CHECKS.dueNeeds(s, 0);
        CHECKS.due("plan(0, 1)", s.plan(0, 1), true);
        done(s, 0, 1);
        CHECKS.dueNeeds(s, 0);
    }

    /** Promise 18: "1 or 0; NONE: none such." */
    private static void leans() {
        StationStarter s = CHECKS.made("module a { } module b on a { }");
        CHECKS.due("leans(1, 0)", s.leans(1, 0), 1);
        CHECKS.due("leans(0, 1)", s.leans(0, 1), 0);
        CHECKS.due("leans(0, 2)", s.leans(0, 2), -1);
        CHECKS.due("leans(2, 0)", s.leans(2, 0), -1);
        CHECKS.due("leans(2, 2)", s.leans(2, 2), -1);
        for (int bad : WILD) {
            CHECKS.due("leans(1, " + bad + ")", s.leans(1, bad), -1);
            CHECKS.due("leans(" + bad + ", 0)", s.leans(bad, 0), -1);
            CHECKS.due("leans(" + bad + ", " + bad + ")", s.leans(bad, bad), -1);
        }
        CHECKS.due("close()", s.close(), 0);
        CHECKS.due("leans(1, 0) when shut", s.leans(1, 0), 1);
    }

    /** Promise 19: "what 0: which, 1: its edition, 2: the demand; NONE." */
    private static void ups() {
        StationStarter s = CHECKS.made(SMALL);
        CHECKS.dueUp(s, 0, -1, -1, -1);
        done(s, 1, 1);
        CHECKS.dueUp(s, 0, -1, -1, -1);
        done(s, 0, 0);
        CHECKS.dueUp(s, 0, 0, 0, 0, -1);
        CHECKS.dueUp(s, 1, -1, -1, -1, -1);
        for (int bad : WILD) {
            CHECKS.dueUp(s, bad, -1, -1, -1, -1);
            CHECKS.due("up(0, " + bad + ")", s.up(0, bad), -1);
        }
        CHECKS.due("close()", s.close(), 1);
        CHECKS.dueUp(s, 0, 0, 0, 0);
    }

    /** Promise 19 and 24: all units in all editions are in the book. */
    private static void everyUp() {
        StationStarter s = CHECKS.made("module m0 { }" + times(23, "module n# on m0 { }") + "demand w { " + times(23, "touch n#;") + "}");
        done(s, 0, 0);
        for (int e = 1; e <= 30; e++) {
            CHECKS.due("heal(0)", s.heal(0), 24);
            CHECKS.due("demand(0, 23)", s.demand(0, 23), 0);
        }
        CHECKS.due("heal(0)", s.heal(0), -1);
        CHECKS.due("count(7)", s.count(7), 24 * 31);
        CHECKS.due("count(3)", s.count(3), 24);
        for (int i = 0; i < 24 * 31; i += 29) {
            CHECKS.dueUp(s, i, i % 24, i / 24, 0);
        }
        CHECKS.dueUp(s, 24 * 31 - 1, 23, 30, 0);
        CHECKS.dueUp(s, 24 * 31, -1, -1, -1);
        CHECKS.due("foresee(0, 23)", s.foresee(0, 23), 0);
        CHECKS.due("close()", s.close(), 24);
        CHECKS.dueClosed(s, 0, 23, 0);
    }

    /** Promise 20: "0: who (a unit; NONE: a demand), 1: the OWNER, 2: which static; NONE. (The first 200.)" */
    private static void halves() {
        for (int many = 198; many <= 201; many++) {
            StationStarter s = CHECKS.made("module a { static p = 0; static x = b.y; } module b { static y = 0; while y < " + many
                    + " { y = y + 1; a.p = a.p + 1; } } demand w { touch a; }");
            done(s, 0, 0);
            CHECKS.due("count(5)", s.count(5), many);
            CHECKS.dueHalf(s, 197, 1, 0, 0, -1);
            for (int i = 198; i < 203; i++) {
                int there = i < many && i < 200 ? 1 : -1;
                CHECKS.dueHalf(s, i, there, Math.min(there, 0), Math.min(there, 0), -1);
            }
        }
        StationStarter s = CHECKS.made("module a { setting k = 1; static p = 0; static x = 0; static y = b.z; } module b { static z = a.y + a.x + a.p; } demand w { touch a; }");
        CHECKS.dueHalf(s, 0, -1, -1, -1);
        done(s, 0, 0);
        for (int i = 0; i < 3; i++) {
            CHECKS.dueHalf(s, i, 1, 0, 2 - i, -1);
        }
        for (int bad : WILD) {
            CHECKS.dueHalf(s, bad, -1, -1, -1, -1);
            CHECKS.due("half(0, " + bad + ")", s.half(0, bad), -1);
        }
    }

    /** Promise 21: "0: who (likewise), 1: the device, 2: what E told, 3: 1 if accepted, else 0; NONE. (The first 200.)" */
    private static void orders() {
        for (int many = 198; many <= 201; many++) {
            StationStarter s = CHECKS.made("device e from 0 to 1 pace 1; device d from 0 to 100 pace 1; module m { static i = 0; while i < " + many
                    + " { i = i + 1; try { order d i; } on { } } } demand w { touch m; } demand v { order e 1; }");
            done(s, 0, 0);
            CHECKS.due("count(6)", s.count(6), many);
            CHECKS.dueOrder(s, 0, 0, 1, 1, 1, -1);
            CHECKS.dueOrder(s, 99, 0, 1, 100, 1, -1);
            CHECKS.dueOrder(s, 100, 0, 1, 101, 0, -1);
            for (int i = 197; i < 203; i++) {
                boolean there = i < many && i < 200;
                CHECKS.dueOrder(s, i, there ? 0 : -1, there ? 1 : -1, there ? i + 1 : -1, there ? 0 : -1, -1);
            }
            // One that is not kept is an order still.
            done(s, 1, 0);
            CHECKS.due("device(0, 1)", CHECKS.device(s, 0, 1), 1);
            CHECKS.due("count(6)", s.count(6), many + 1);
            CHECKS.due("order(" + many + ", 1)", s.order(many, 1), many < 200 ? 0 : -1);
            CHECKS.due("order(" + many + ", 0)", s.order(many, 0), -1);
        }
        StationStarter s = CHECKS.made("device d from 0 to 9 pace 1; demand w { order d 3; }");
        CHECKS.dueOrder(s, 0, -1, -1, -1, -1);
        done(s, 0, 0);
        CHECKS.dueOrder(s, 0, -1, 0, 3, 1, -1);
        for (int bad : WILD) {
            CHECKS.dueOrder(s, bad, -1, -1, -1, -1, -1);
            CHECKS.due("order(0, " + bad + ")", s.order(0, bad), -1);
        }
    }

    /** Promise 22: "0: which, 1: the first kind that ended its closing, 0 for none; NONE." */
    private static void closed() {
        StationStarter s = CHECKS.made("module m { closing { fail 6; } } module n { closing { } } demand w { touch m; touch n; }");
        done(s, 0, 0);
        CHECKS.dueClosed(s, 0, -1, -1);
        CHECKS.due("close()", s.close(), 2);
        CHECKS.dueClosed(s, 0, 1, 0, -1);
        CHECKS.dueClosed(s, 1, 0, 6, -1);
        CHECKS.dueClosed(s, 2, -1, -1, -1);
        for (int bad : WILD) {
            CHECKS.dueClosed(s, bad, -1, -1, -1);
            CHECKS.due("closed(0, " + bad + ")", s.closed(0, bad), -1);
        }
        CHECKS.due("close()", s.close(), -1);
        CHECKS.dueClosed(s, 1, 0, 6);
    }

    /** Promise 23: "what 0: where it stands, 1: its goal; NoSuchElementException: none such." */
    private static void devices() {
        StationStarter s = CHECKS.made(times(24, "device d# from # to 100 pace 1;") + "demand w { order d23 30; order d0 1; }");
        done(s, 0, 0);
        CHECKS.due("beat(1)", s.beat(1), 1);
        for (int d = 0; d < 24; d++) {
            CHECKS.due("device(" + d + ", 0)", CHECKS.device(s, d, 0), d == 0 ? 1 : d == 23 ? 24 : d);
            CHECKS.due("device(" + d + ", 1)", CHECKS.device(s, d, 1), d == 0 ? 1 : d == 23 ? 30 : d);
            CHECKS.due("device(" + d + ", 2)", CHECKS.device(s, d, 2), Checks.THROWS);
        }
        CHECKS.due("device(24, 0)", CHECKS.device(s, 24, 0), Checks.THROWS);
        for (int bad : WILD) {
            CHECKS.due("device(0, " + bad + ")", CHECKS.device(s, 0, bad), Checks.THROWS);
            CHECKS.due("device(" + bad + ", 0)", CHECKS.device(s, bad, 0), Checks.THROWS);
            CHECKS.due("device(" + bad + ", 1)", CHECKS.device(s, bad, 1), Checks.THROWS);
        }
    }

    /** Promise 24: what 0 to 13, each with a number of its own; "NONE for another what." */
    private static void counts() {
        StationStarter s = CHECKS.made(times(3, "device d# from 0 to 9 pace 1;") + "module a { static x = b.y + b.y; } module b { static y = a.x + a.x * a.x; } "
                + "module f { fail 1; } module g { touch f; } module h { } module i { } module j { } "
                + "demand w { touch a; touch h; touch i; touch j; order d0 1; order d0 2; } demand v { try { touch f; } on { } touch g; } demand u { order d1 1; } demand t { }");
        done(s, 0, 0);
        CHECKS.due("heal(6)", s.heal(6), 1);
        done(s, 0, 0);
        done(s, 1, 2);
        CHECKS.due("beat(90)", s.beat(90), 90);
        for (int e = 0; e < 11; e++) {
            CHECKS.due("plan(0, " + e + ")", s.plan(0, e), true);
        }
        Feeder.feed(s, "a b c d e f g h i j k l m n o p q r s t u v w x y z");
        // The first: 4 touch, 2 orders of 2, a: static, +, 2 PARTS; b: static, 3 PARTS.
        int first = 4 + 4 + 3 + 4;
        int second = 4 + 4;
        int third = 2 + 1 + 1 + 1;
        int[] want = {3, 7, 4, 5, 2, 3, 4, 6, 90, first + second + third, third, 0, 11, 51};
        for (int what = 0; what < want.length; what++) {
            CHECKS.due("count(" + what + ")", s.count(what), want[what]);
        }
        CHECKS.due("count(14)", s.count(14), -1);
        for (int bad : WILD) {
            CHECKS.due("count(" + bad + ")", s.count(bad), -1);
        }
        CHECKS.due("close()", s.close(), 5);
        want[3] = 0;
        want[11] = 1;
        for (int what = 0; what < want.length; what++) {
            CHECKS.due("count(" + what + ") when shut", s.count(what), want[what]);
        }
    }

    /** "An object is used for at most 512 calls": the last of them is answered like the first. */
    private static void fiveHundredCalls() {
        StationStarter s = new StationStarter();
        int calls = 0;
        for (; calls < 508; calls += 4) {
            CHECKS.due("feed", s.feed(0x6D_6F_64_75_6C_65_20_6DL, 0x20_7B_73_74_61_74_69_63L, 0x20_73_3D_31_3B_7D_0A_20L), 24);
            CHECKS.due("station()", s.station(), 0);
            CHECKS.due("count(1)", s.count(1), 1);
            CHECKS.due("close()", s.close(), 0);
        }
        CHECKS.due("feed", s.feed(0x6DL, 0, 0), 1);
        CHECKS.due("named(1)", s.named(1), 0);
        CHECKS.due("count(11)", s.count(11), 1);
        CHECKS.due("unit(0, 6)", CHECKS.unit(s, 0, 6), 1);
    }
}
