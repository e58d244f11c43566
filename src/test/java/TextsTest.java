/** Promises 1 to 4: a new object, feed, station with its FAULTS, named. */
public final class TextsTest {
    private static final Checks CHECKS = new Checks();

    public static void main(String[] args) {
        newObject();
        feeding();
        goodTexts();
        tokens();
        standing();
        telling();
        numbers();
        tooMany();
        within();
        partsInBlocks();
        sorts();
        endOfText();
        takingPlace();
        naming();
        CHECKS.end();
    }

    private static void newObject() {
        StationStarter s = new StationStarter();
        for (int what = 0; what < 14; what++) {
            CHECKS.due("count(" + what + ") of a new object", s.count(what), 0);
        }
        CHECKS.due("demand(0, 1)", s.demand(0, 1), 4);
        CHECKS.due("foresee(0, 1)", s.foresee(0, 1), -1);
        CHECKS.due("foreseen(0)", s.foreseen(0), -1);
        CHECKS.due("ended(0)", s.ended(0), 0);
        CHECKS.due("plan(0, 0)", s.plan(0, 0), false);
        CHECKS.due("heal(0)", s.heal(0), -1);
        CHECKS.due("unit(0, 0)", CHECKS.unit(s, 0, 0), Checks.THROWS);
        CHECKS.due("read(0, 0)", CHECKS.read(s, 0, 0), Checks.THROWS);
        CHECKS.due("device(0, 0)", CHECKS.device(s, 0, 0), Checks.THROWS);
        CHECKS.due("cause(0, 0)", s.cause(0, 0), 0);
        CHECKS.due("need(0, 0)", s.need(0, 0), -1);
        CHECKS.due("leans(0, 0)", s.leans(0, 0), -1);
        CHECKS.due("up(0, 0)", s.up(0, 0), -1);
        CHECKS.due("closed(0, 0)", s.closed(0, 0), -1);
        CHECKS.due("NONE", StationStarter.NONE, -1);
        CHECKS.due("beat(3)", s.beat(3), 3);
        CHECKS.due("close()", s.close(), 0);
        CHECKS.due("close()", s.close(), -1);
    }

    private static void feeding() {
        StationStarter s = new StationStarter();
        CHECKS.due("feed of nothing", s.feed(0, 0, 0), 0);
        CHECKS.due("feed of a", s.feed(0x6100000000000000L, 0, 0), 1);
        CHECKS.due("feed of blanks", s.feed(0x0A20L, 0x20L, 0x0AL << 56), 5);
        CHECKS.due("feed of what is left out", s.feed(0x09_0B_1F_7F_80_FF_0D_00L, -1, Long.MIN_VALUE), 5);
        CHECKS.due("feed of the edges", s.feed(0x20_7E_0A_0000000000L, 0, 0), 8);
        for (int i = 0; i < 166; i++) {
            s.feed(0x2020202020202020L, 0x2020202020202020L, 0x2020202020202020L);
        }
        CHECKS.due("count(13)", s.count(13), 8 + 166 * 24);
        CHECKS.due("feed up to the end", s.feed(0x2020202020202020L, 0x2020202020202020L, 0x2020202020202020L), 4000);
        CHECKS.due("feed beyond the end", s.feed(0x2020202020202020L, 0, 0x20), 4000);
        CHECKS.due("station() of a and ~", s.station(), 1);
        CHECKS.due("count(13)", s.count(13), 0);
        // The order of the signs: a ahead of b ahead of c, and in each the highest byte first.
        Feeder.station(s, "module wxyzabcdefgh { }");
        s.feed(Feeder.pack("wx", 0), Feeder.pack("yz", 0), Feeder.pack("ab", 0));
        s.feed(Feeder.pack("cdefgh", 0), 0, 0);
        CHECKS.due("named(1)", s.named(1), 0);
    }

    private static void goodTexts() {
        CHECKS.fine("");
        CHECKS.fine(" \n ");
        CHECKS.fine("device d from 0 to 0 pace 1;");
        CHECKS.fine("device d from 0 to 999999999 pace 999999999;device e from 7 to 7 pace 1;");
        CHECKS.fine("role r{}acting role q like r{}module m{}module n on m has r,q{closing{}}demand d{}");
        CHECKS.fine("module m { setting a = 0; setting b = - 999999999; static c = a; c = b; closing { c = a; } }");
        CHECKS.fine("demand w { touch m; m.s = m.k; } module m { setting k = 1; static s = 2; }");
        CHECKS.fine("module m { static s = 1; if s { } if s < 2 { s = 1; } else { } while 0 { } try { fail 1; } on { fail 9; } }");
        CHECKS.fine("device d from 0 to 1 pace 1; module m { static s = 1; s = s < 2; s = s = 2; order d s < 2; m.s = 1 = 1; }");
        CHECKS.fine("device d from 0 to 1 pace 1; module m { order d of d + kind * beats - - (1) / 2 % 3; check 1 = 1; }");
        // The names of items are no names of units, devices and demands.
        CHECKS.fine("device a from 0 to 1 pace 1; module m { static a = 1; static m = 2; setting d = 3; } demand d { }");
        // Roles that are met on many ways are one each.
        CHECKS.fine("role a { } role b like a { } role c like a, b { } role d like a, b, c { static y = 1; } "
                + "module m has a, b, c, d { static x = y; } module n on m has a, b, c { x = y; } demand w { n.x = n.y; }");
        // As long a text as there can be.
        String longest = "module m{static s=1" + times(1989, "+1") + ";} ";
        CHECKS.due("signs of the longest text", longest.length(), 4000);
        StationStarter s = CHECKS.made(longest);
        CHECKS.due("count(1) of the longest text", s.count(1), 1);
        // Roles and base are looked through behind the unit itself, as deep as they go.
        CHECKS.fine("role r { static x = 1; } role q like r { } module b has q { } module m on b { x = 2; }");
        CHECKS.fine("demand w { m.x = 1; } role r { static x = 1; } role q like r { } module b has q { } module m on b { }");
    }

    private static void tokens() {
        CHECKS.fine("module abcdefghijkl { }");
        CHECKS.fault(1, "module @abcdefghijklm { }");
        CHECKS.fault(1, "module @a1234567890123 { }");
        CHECKS.fine("module a12345678901 { }");
        CHECKS.fault(1, "module m { static s = @1234567890; }");
        CHECKS.fault(1, "module m { static s = @0000000001; }");
        CHECKS.fine("module m { static s = 000000001; }");
        CHECKS.fault(1, "module @A { }");
        CHECKS.fault(1, "module a@B { }");
        CHECKS.fault(1, "module m { static s = 1 @> 2; }");
        CHECKS.fault(1, "@# module m { }");
        CHECKS.fault(1, "module m { } @~");
        CHECKS.fault(1, "module @1m { }");
        // A letter may stand right behind a NUMBER, and a sign anywhere.
        CHECKS.fine("device d from 0to 5pace 1;module m{static s=1*2;if s<3{s=s+1;}else{s=0;}}");
        CHECKS.fault(1, "module m { static s = 12@ab; }");
        CHECKS.fault(2, "module m { static s = @ab12; }");
        for (String key : Model.KEYS) {
            CHECKS.fault(1, "module @" + key + " { }");
        }
    }

    private static void standing() {
        CHECKS.fault(1, "@m { }");
        CHECKS.fault(1, "@}");
        CHECKS.fault(1, "@5");
        CHECKS.fault(1, "acting @module m { }");
        CHECKS.fault(1, "device d @to 5 from 1 pace 1;");
        CHECKS.fault(1, "device d from @- 1 to 5 pace 1;");
        CHECKS.fault(1, "device d from 1 to 5 pace 1@}");
        CHECKS.fault(1, "role r @on r { }");
        CHECKS.fault(1, "module m on @5 { }");
        CHECKS.fault(1, "module m on @{ }");
        CHECKS.fault(1, "role r @has r { }");
        CHECKS.fault(1, "module m @like m { }");
        CHECKS.fault(1, "role r { } module m has r @on m { }");
        CHECKS.fault(1, "role r { } module m has r @r { }");
        CHECKS.fault(1, "role r { } module m has r, @{ }");
        CHECKS.fault(1, "role r { @closing { } }");
        CHECKS.fault(1, "module m { closing { } @static s = 1; }");
        CHECKS.fault(1, "module m { closing @; }");
        CHECKS.fault(1, "module m { if 1 { @static s = 1; } }");
        CHECKS.fault(1, "module m { if 1 { @setting s = 1; } }");
        CHECKS.fault(1, "demand w { @static s = 1; }");
        CHECKS.fault(1, "demand w { @closing { } }");
        CHECKS.fault(1, "demand w @; ");
        CHECKS.fault(1, "module m { setting a = - @- 5; }");
        CHECKS.fault(1, "module m { setting a = 5 @+ 5; }");
        CHECKS.fault(1, "module m { setting a = @( 5 ); }");
        CHECKS.fault(1, "module m { static s = @; }");
        CHECKS.fault(1, "module m { static s = 1 < 2 @< 3; }");
        CHECKS.fault(1, "module m { static s = 1 = 2 @= 3; }");
        CHECKS.fault(1, "module m { static s = 1 + @+ 3; }");
        CHECKS.fault(1, "module m { static s = (1 @; }");
        CHECKS.fault(1, "module m { static s = of @5; }");
        CHECKS.fault(1, "module m { static s = 1; s @; }");
        CHECKS.fault(1, "module m { static s = 1; m.@5 = 1; }");
        CHECKS.fault(1, "module m { static s = 1; m.s@.s = 1; }");
        CHECKS.fault(1, "module m { touch @5; }");
        CHECKS.fault(1, "module m { touch m@.s; }");
        CHECKS.fault(1, "module m { fail @; }");
        CHECKS.fault(1, "module m { fail @- 1; }");
        CHECKS.fault(1, "module m { check 1 @} }");
        CHECKS.fault(1, "module m { @else { } }");
        CHECKS.fault(1, "module m { try { } @else { } }");
        CHECKS.fault(1, "module m { if 1 @touch m; }");
        CHECKS.fault(1, "module m { while @{ } }");
        CHECKS.fault(1, "module m { @; }");
    }

    private static void telling() {
        CHECKS.fault(2, "module m { static s = @s; }");
        CHECKS.fault(2, "module m { @s = 1; static s = 1; }");
        CHECKS.fault(2, "module m { static s = 1; } module n { static t = @s; }");
        CHECKS.fault(2, "module m { order @d 1; }");
        CHECKS.fault(2, "module m { order @d 1; } device d from 0 to 1 pace 1;");
        CHECKS.fault(2, "module m { order @m 1; }");
        CHECKS.fault(2, "module m { static s = of @m; }");
        CHECKS.fault(2, "module m on @n { } module n { }");
        CHECKS.fault(2, "module m on @m { }");
        CHECKS.fault(2, "module m has @r { } role r { }");
        CHECKS.fault(2, "role r like @r { }");
        CHECKS.fault(2, "device d from 0 to 1 pace 1; module m on @d { }");
        CHECKS.fault(2, "demand w { } module m has @w { }");
        // A NAME alone has no OWNER in a demand.
        CHECKS.fault(2, "module m { static s = 1; } demand w { @s = 1; }");
        CHECKS.fault(2, "module m { static s = 1; } demand w { check @s; }");
        // UNITNAMES and what is behind them: when nothing else is wrong, the first from the left.
        CHECKS.fault(2, "module m { touch @n; }");
        CHECKS.fault(2, "device d from 0 to 1 pace 1; module m { touch @d; }");
        CHECKS.fault(2, "demand w { touch @w; }");
        CHECKS.fault(2, "demand w { @n.s = 1; }");
        CHECKS.fault(2, "module m { } demand w { m.@s = 1; }");
        CHECKS.fault(2, "module m { static s = m.@t; }");
        CHECKS.fault(2, "module m { static s = 1; } demand w { m.@t = n.s; touch q; }");
        CHECKS.fault(2, "module m { static s = 1; } demand w { m.s = @n.s; touch q; }");
        CHECKS.fault(1, "module m { touch n; } @)");
        CHECKS.fault(3, "module m { touch n; } module @m { }");
        // A unit is looked into as it is at the end, but not what only another one has.
        CHECKS.fine("module m { static s = n.t; } module n { static t = 1; }");
        CHECKS.fine("module m { static s = m.t; static t = 1; }");
        CHECKS.fault(3, "device d from 0 to 1 pace 1; device @d from 0 to 1 pace 1;");
        CHECKS.fault(3, "device d from 0 to 1 pace 1; module @d { }");
        CHECKS.fault(3, "module m { } role @m { }");
        CHECKS.fault(3, "demand w { } demand @w { }");
        CHECKS.fault(3, "module m { } demand @m { }");
        CHECKS.fault(3, "demand w { } module @w { }");
        CHECKS.fault(3, "module m { static s = 1; static @s = 1; }");
        CHECKS.fault(3, "module m { static s = 1; setting @s = 1; }");
        CHECKS.fault(3, "module m { setting s = 1; static @s = 1; }");
        CHECKS.fine("module m { static s = 1; } module n on m { static s = s; }");
        CHECKS.fault(3, "role r { } module m has r, @r { }");
        CHECKS.fault(3, "role r { } role q like r, @r { }");
        CHECKS.fine("role r { } role q like r { } module m has q, r { }");
    }

    private static void numbers() {
        CHECKS.fault(4, "device d from 5 to @4 pace 1;");
        CHECKS.fault(4, "device d from 0 to 4 pace @0;");
        CHECKS.fault(4, "module m { fail @0; }");
        CHECKS.fault(4, "module m { fail @10; }");
        CHECKS.fine("module m { fail 9; }");
        CHECKS.fine("module m { setting a = 999999999; setting b = - 0; }");
    }

    private static String times(int many, String row) {
        StringBuilder text = new StringBuilder();
        for (int i = 0; i < many; i++) {
            text.append(row.replace("#", String.valueOf(i)));
        }
        return text.toString();
    }

    private static void tooMany() {
        String devices = times(24, "device d# from 0 to 1 pace 1;");
        CHECKS.fine(devices);
        CHECKS.fault(5, devices + "@device d0 nonsense");
        String units = times(12, "role r#{}module m#{}");
        CHECKS.fine(units);
        CHECKS.fault(5, units + " @role x { }");
        CHECKS.fault(5, units + " @acting role x { }");
        CHECKS.fault(5, units + " @acting 5");
        CHECKS.fault(5, units + " @module x { }");
        String demands = times(20, "demand w#{}");
        CHECKS.fine(demands);
        CHECKS.fault(5, demands + "@demand x { }");
        CHECKS.fine(devices + units + demands);
        String settings = times(8, "setting a# = 1;");
        CHECKS.fine("module m {" + settings + "}");
        CHECKS.fault(5, "module m {" + settings + " setting @x = 1; }");
        CHECKS.fault(5, "module m {" + settings + " static @x = 1; }");
        CHECKS.fault(3, "module m {" + settings + " static @a0 = 1; }");
        CHECKS.fault(1, "module m {" + settings + " static @; }");
        CHECKS.fault(5, "module m {" + times(4, "setting a# = 1; static b# = 1;") + " static @x = 1; }");
        String roles = times(8, "role r#{}") + "module n { } ";
        CHECKS.fine(roles + "module m has r0, r1, r2, r3, r4, r5 { }");
        CHECKS.fault(5, roles + "module m has r0, r1, r2, r3, r4, r5, @r6 { }");
        CHECKS.fault(5, roles + "role m like r0, r1, r2, r3, r4, r5, @r6 { }");
        CHECKS.fault(3, roles + "module m has r0, r1, r2, r3, r4, r5, @r5 { }");
        CHECKS.fault(2, roles + "module m has r0, r1, r2, r3, r4, r5, @x { }");
        CHECKS.fault(5, roles + "module m has r0, r1, r2, r3, r4, r5, @n { }");
    }

    private static void within() {
        CHECKS.fine("demand w " + times(9, "{if 1") + "{" + tail(10));
        CHECKS.fine("demand w " + times(9, "{try") + "{" + times(9, "} on { }") + "}");
        CHECKS.fault(5, "demand w " + times(10, "{try") + "@{");
        CHECKS.fault(5, "demand w " + times(9, "{try") + "{ try @{");
        CHECKS.fault(5, "module m { closing " + times(10, "{try") + "@{" + times(12, "}"));
        CHECKS.fault(5, "module m { " + times(10, "try {") + "try @{" + times(12, "}"));
        CHECKS.fault(5, "module m { " + times(9, "if 0 {") + "try { } on { try @{");
        CHECKS.fault(1, "demand w " + times(10, "{try") + "@;");
        CHECKS.fine("module m { static s = " + times(9, "(") + "1" + times(9, ")") + "; }");
        CHECKS.fault(5, "module m { static s = " + times(10, "(") + "@1" + times(10, ")") + "; }");
        CHECKS.fine("module m { static s = " + times(9, "- ") + "1; }");
        for (String start : new String[] {"static t =", "s =", "m.s =", "order d", "check", "if", "while"}) {
            String end = start.equals("if") || start.equals("while") ? " { } }" : "; }";
            String head = "device d from 0 to 1 pace 1; module m { static s = 1; " + start + " ";
            CHECKS.fine(head + "1 = 1 - 1 * " + times(9, "- ") + "s" + end);
            CHECKS.fault(5, head + "1 < 1 + 1 / " + times(10, "- ") + "@s" + end);
        }
        CHECKS.fault(5, "module m { static s = " + times(10, "- ") + "@1; }");
        CHECKS.fault(5, "module m { static s = " + times(5, "- (") + "@- 1" + times(5, ")") + "; }");
        CHECKS.fault(5, "module m { static s = 1; s = " + times(10, "- ") + "@s; }");
        CHECKS.fault(5, "module m { static s = 1; s = " + times(10, "- ") + "@x.s; }");
        CHECKS.fault(2, "module m { static s = " + times(10, "- ") + "@s; }");
        CHECKS.fault(1, "module m { static s = " + times(10, "- ") + "@; }");
        CHECKS.fault(5, "module m { static s = " + times(10, "- ") + "@of x; }");
        // Beside one another they do not count.
        CHECKS.fine("module m { static s = " + times(30, "- 1 + (2) * ") + "3; " + times(30, "if 1 { } ") + "}");
    }

    /** BLOCKS and PARTS are counted together: a PART is within the BLOCKS around it, too. */
    private static void partsInBlocks() {
        CHECKS.fault(5, "demand d { check (((((((((@1))))))))); }");
        CHECKS.fine("demand d { check ((((((((1)))))))); }");
        String tries = "demand d { " + times(9, "try { ");
        CHECKS.fault(5, tries + "check @1; }" + times(9, " on {} }"));
        CHECKS.fine(tries + "fail 1; }" + times(9, " on {} }"));
        String[] starts = {"s =", "m.s =", "order d", "check", "if", "while"};
        for (String start : starts) {
            String end = start.equals("if") || start.equals("while") ? " { } " : ";";
            for (int blocks = 0; blocks <= 10; blocks++) {
                String head = "device d from 0 to 1 pace 1; module m { static s = 1; " + times(blocks, "try {") + start + " ";
                String close = times(blocks, "} on { }") + "}";
                for (int parts = 0; parts <= 10 - blocks - 1; parts++) {
                    CHECKS.fine(head + "2 + " + times(parts, "(") + "1" + times(parts, ")") + end + close);
                    CHECKS.fine(head + "2 < " + times(parts, "- ") + "s" + end + close);
                }
                int deepest = 10 - blocks;
                CHECKS.fault(5, head + times(deepest, "(") + "@1" + times(deepest, ")") + end + close);
                CHECKS.fault(5, head + times(deepest, "- ") + "@s" + end + close);
                CHECKS.fault(2, head + times(deepest, "- ") + "@t" + end + close);
                CHECKS.fault(5, head + times(deepest, "- ") + "@x.t" + end + close);
                CHECKS.fault(1, head + times(deepest, "- ") + "@;" + end + close);
                CHECKS.fault(5, head + times(deepest, "- ") + "@(1)" + end + close);
            }
        }
        // The BLOCK of a demand, of a closing, of on and of else count; the BODY of a unit is no BLOCK.
        CHECKS.fault(5, "demand d { try { } on {" + times(8, "try {") + "check @1;");
        CHECKS.fault(5, "demand d { if 1 { } else {" + times(7, "try {") + "check -@1;");
        CHECKS.fault(5, "module m { closing {" + times(8, "while 1 {") + "check -@1;");
        CHECKS.fault(5, "demand d {" + times(9, "if 1 {") + "while @1 {");
        CHECKS.fine("module m {" + times(9, "if 1 {") + "if 1 { }" + times(9, "}") + " }");
        CHECKS.fault(5, "module m {" + times(10, "if 1 {") + "if @1 { }");
        // What has no PART may stand in the tenth BLOCK.
        CHECKS.fine("module m { static s = 1; " + times(10, "try {") + "fail 1; touch m;" + times(10, "} on { }") + "}");
        CHECKS.fine("demand d {" + times(9, "try {") + "fail 1;" + times(9, "} on { }") + "}");
    }

    /** Closes that many BLOCKS of which the innermost stands open. */
    private static String tail(int many) {
        return times(many, "}");
    }

    private static void sorts() {
        CHECKS.fault(6, "module m { setting k = 1; @k = 2; }");
        CHECKS.fault(6, "role r { setting k = 1; } module m has r { @k = 2; }");
        CHECKS.fault(6, "module m { setting k = 1; } demand w { m.@k = 2; }");
        CHECKS.fault(6, "role r { } module m on @r { }");
        CHECKS.fault(6, "module b { } module m has @b { }");
        CHECKS.fault(6, "module b { } role m like @b { }");
        // Of the first OWNER it is that counts, whatever others have.
        CHECKS.fault(6, "role r { setting k = 1; } module b { static k = 2; } module m on b has r { @k = 3; }");
        CHECKS.fine("role r { static k = 1; } module b { setting k = 2; } module m on b has r { k = 3; }");
        CHECKS.fault(6, "role r { setting k = 1; } role q { static k = 1; } module m has r, q { @k = 3; }");
        CHECKS.fault(6, "role r { setting k = 1; } role p { static k = 1; } role q like r { } module m has q, p { @k = 3; }");
    }

    private static void endOfText() {
        CHECKS.fault(1, "module@");
        CHECKS.fault(1, "module m {@");
        CHECKS.fault(1, "module m { \n @");
        CHECKS.fault(1, "device d from 0 to 1 pace 1@");
        CHECKS.fault(1, "demand w { if 1 {@");
        CHECKS.fault(1, "module m { static s = @");
        CHECKS.fault(1, "module m { static s = 1 +@");
        CHECKS.fault(1, "module m { static s = (1 @");
        CHECKS.fault(1, "module m { } demand w { m.@");
        CHECKS.fault(1, "role r { } module m has r,@");
        CHECKS.fault(1, "acting@");
    }

    private static void takingPlace() {
        StationStarter s = CHECKS.made("device d from 3 to 9 pace 1; module m { static s = 5; order d 4; } "
                + "module q { fail 4; } demand w { touch m; } demand v { touch m; touch q; }");
        CHECKS.due("demand(0, 100)", s.demand(0, 100), 0);
        CHECKS.due("heal(0)", s.heal(0), 1);
        CHECKS.due("demand(0, 100)", s.demand(0, 100), 0);
        CHECKS.due("plan(0, 3)", s.plan(0, 3), true);
        CHECKS.due("heal(0)", s.heal(0), 1);
        CHECKS.due("foresee(0, 100)", s.foresee(0, 100), 1);
        CHECKS.due("demand(0, 100)", s.demand(0, 100), 0);
        CHECKS.due("heal(0)", s.heal(0), 1);
        CHECKS.due("demand(0, 100)", s.demand(0, 100), 1);
        CHECKS.due("heal(0)", s.heal(0), 1);
        CHECKS.due("demand(1, 100)", s.demand(1, 100), 1);
        CHECKS.due("beat(2)", s.beat(2), 2);
        int steps = s.count(9);
        CHECKS.due("station() with a fault", Feeder.station(s, "module"), 1 + 16 * 6);
        CHECKS.due("unit(0, 1)", CHECKS.unit(s, 0, 1), 4);
        CHECKS.dueEnded(s, 20, 4);
        CHECKS.due("foreseen(0)", s.foreseen(0), 0);
        CHECKS.due("read(0, 0)", CHECKS.read(s, 0, 0), 5);
        CHECKS.due("count(6)", s.count(6), 4);
        CHECKS.due("count(8)", s.count(8), 2);
        CHECKS.due("count(12)", s.count(12), 1);
        CHECKS.due("count(13)", s.count(13), 0);
        CHECKS.due("device(0, 0)", CHECKS.device(s, 0, 0), 4);
        CHECKS.due("close()", s.close(), 1);
        CHECKS.due("station()", Feeder.station(s, "device e from 7 to 9 pace 1; module n { static t = 1; } demand v { touch n; }"), 0);
        int[] counts = {1, 1, 1, 0, 0, 0, 0, 0, 0, steps, 0, 0, 0, 0};
        for (int what = 0; what < counts.length; what++) {
            CHECKS.due("count(" + what + ") behind a new STATION", s.count(what), counts[what]);
        }
        CHECKS.due("unit(0, 0)", CHECKS.unit(s, 0, 0), 0);
        CHECKS.due("unit(0, 1)", CHECKS.unit(s, 0, 1), 0);
        CHECKS.due("device(0, 0)", CHECKS.device(s, 0, 0), 7);
        CHECKS.due("device(0, 1)", CHECKS.device(s, 0, 1), 7);
        CHECKS.dueEnded(s);
        CHECKS.due("foreseen(0)", s.foreseen(0), -1);
        CHECKS.due("up(0, 0)", s.up(0, 0), -1);
        CHECKS.due("order(0, 0)", s.order(0, 0), -1);
        CHECKS.due("closed(0, 0)", s.closed(0, 0), -1);
        CHECKS.due("demand(0, 100)", s.demand(0, 100), 0);
        CHECKS.due("read(0, 0)", CHECKS.read(s, 0, 0), 1);
        CHECKS.due("station() of an empty tape", s.station(), 0);
        CHECKS.due("count(1)", s.count(1), 0);
    }

    private static int named(StationStarter s, String word, int sort) {
        Feeder.feed(s, word);
        int answer = s.named(sort);
        CHECKS.due("count(13) behind named", s.count(13), 0);
        return answer;
    }

    private static void naming() {
        StationStarter s = CHECKS.made("device d from 0 to 1 pace 1; role r { } module m { static s = 1; } "
                + "device e from 0 to 1 pace 1; demand w { } demand v { } module abcdefghijkl { }");
        CHECKS.due("named(0) of d", named(s, "d", 0), 0);
        CHECKS.due("named(0) of e", named(s, "e", 0), 1);
        CHECKS.due("named(1) of r", named(s, "r", 1), 0);
        CHECKS.due("named(1) of m", named(s, " \nm ", 1), 1);
        CHECKS.due("named(1) of twelve signs", named(s, "abcdefghijkl", 1), 2);
        CHECKS.due("named(1) of thirteen signs", named(s, "abcdefghijklm", 1), -1);
        CHECKS.due("named(2) of v", named(s, "v", 2), 1);
        CHECKS.due("named(1) of d", named(s, "d", 1), -1);
        CHECKS.due("named(0) of w", named(s, "w", 0), -1);
        CHECKS.due("named(2) of m", named(s, "m", 2), -1);
        CHECKS.due("named(1) of s", named(s, "s", 1), -1);
        CHECKS.due("named(3) of m", named(s, "m", 3), -1);
        CHECKS.due("named(-1) of m", named(s, "m", -1), -1);
        CHECKS.due("named(1) of nothing", named(s, "", 1), -1);
        CHECKS.due("named(1) of two words", named(s, "m m", 1), -1);
        CHECKS.due("named(1) of m;", named(s, "m;", 1), -1);
        CHECKS.due("named(1) of a number", named(s, "5", 1), -1);
        CHECKS.due("named(1) of role", named(s, "role", 1), -1);
        CHECKS.due("named(1) of M", named(s, "M", 1), -1);
        // Names that are near one another.
        String[] names = {"a", "aa", "aaa", "a0", "a9", "az", "b", "ba", "b0", "z", "zz", "z9", "z0", "a00", "a09", "a0a",
            "aaaaaaaaaaaa", "aaaaaaaaaaab", "zzzzzzzzzzzz", "zzzzzzzzzzz9", "z99999999999", "baaaaaaaaaaa", "a1", "onn"};
        StringBuilder text = new StringBuilder();
        for (String name : names) {
            text.append("module ").append(name).append(" { } ");
        }
        s = CHECKS.made(text.toString());
        for (int i = 0; i < names.length; i++) {
            CHECKS.due("named(1) of " + names[i], named(s, names[i], 1), i);
        }
    }
}
