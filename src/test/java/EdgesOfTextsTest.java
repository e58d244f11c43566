/**
 * The edges that "1. TEXTS" and promises 1 to 4 of the document name. Each test stands for one sentence, which is told
 * above it; the sign @ stands ahead of the token that is wrong.
 */
public final class EdgesOfTextsTest {
    private static final Checks CHECKS = new Checks();
    private static final int LARGEST = 999999999;
    private static final String DEVICE = "device d from 0 to 9 pace 1; ";

    public static void main(String[] args) {
        anEmptyStation();
        fourThousandSigns();
        signsOfTheTape();
        othersAreLeftOut();
        theHighestFirst();
        itIsEmptyThen();
        tokensAsLongAsCanBe();
        blanksWhereOneLikes();
        wordsOfTwelve();
        numbersOfNine();
        oneSignBetween();
        anyNumberOf();
        optionalParts();
        theBody();
        blocksOfNone();
        oneComparison();
        keywordsAreNoNames();
        namesOfAnother();
        namesInAUnit();
        toldAhead();
        unitnamesOfAny();
        aNameAlone();
        theFirstThatHasIt();
        settingsCannotBeSet();
        numbersInRange();
        mostDevices();
        mostUnits();
        mostDemands();
        mostItems();
        mostRoles();
        mostWithin();
        placesOfFaults();
        theFirstThatIsWrong();
        theLeastThatIsWrong();
        whenAllIsRead();
        aNewStation();
        elseAllStays();
        named();
        CHECKS.end();
    }

    private static String times(int many, String row) {
        StringBuilder text = new StringBuilder();
        for (int i = 0; i < many; i++) {
            text.append(row.replace("#", String.valueOf(i)));
        }
        return text.toString();
    }

    /** "An empty station." It is empty also behind an empty TAPE, and is no shut one. */
    private static void anEmptyStation() {
        for (int again = 0; again < 2; again++) {
            StationStarter s = new StationStarter();
            if (again == 1) {
                CHECKS.due("station() of nothing", s.station(), 0);
            }
            for (int what = 0; what < 14; what++) {
                CHECKS.due("count(" + what + ")", s.count(what), 0);
            }
            CHECKS.due("demand(0, 1)", s.demand(0, 1), 4);
            CHECKS.due("foresee(0, 1)", s.foresee(0, 1), -1);
            CHECKS.due("heal(0)", s.heal(0), -1);
            CHECKS.due("plan(0, 0)", s.plan(0, 0), false);
            CHECKS.due("leans(0, 0)", s.leans(0, 0), -1);
            CHECKS.due("need(0, 0)", s.need(0, 0), -1);
            CHECKS.due("cause(0, 0)", s.cause(0, 0), 0);
            CHECKS.due("ended(0)", s.ended(0), 0);
            CHECKS.due("foreseen(0)", s.foreseen(0), -1);
            CHECKS.due("unit(0, 0)", CHECKS.unit(s, 0, 0), Checks.THROWS);
            CHECKS.due("read(0, 0)", CHECKS.read(s, 0, 0), Checks.THROWS);
            CHECKS.due("device(0, 0)", CHECKS.device(s, 0, 0), Checks.THROWS);
            CHECKS.dueUp(s, 0, -1, -1, -1);
            CHECKS.dueHalf(s, 0, -1, -1, -1);
            CHECKS.dueOrder(s, 0, -1, -1, -1, -1);
            CHECKS.dueClosed(s, 0, -1, -1);
            CHECKS.due("named(1) of m", named(s, "m", 1), -1);
            CHECKS.due("beat(1000)", s.beat(1000), 1000);
            CHECKS.due("close()", s.close(), 0);
            CHECKS.due("close()", s.close(), -1);
        }
    }

    /** "The TAPE has at most 4,000 signs"; "what is beyond 4,000" is left out: the first ones are kept. */
    private static void fourThousandSigns() {
        StationStarter s = new StationStarter();
        CHECKS.due("signs of 3,992 blanks", Feeder.feed(s, " ".repeat(3992)), 3992);
        CHECKS.due("signs of 4,000 and one", Feeder.feed(s, "role r{}@"), 4000);
        CHECKS.due("signs when it is full", Feeder.feed(s, "}".repeat(24)), 4000);
        CHECKS.due("station() of the first 4,000", s.station(), 0);
        CHECKS.due("count(1)", s.count(1), 1);
        CHECKS.due("signs of 3,993 blanks", Feeder.feed(s, " ".repeat(3993)), 3993);
        CHECKS.due("signs of 4,000 and one", Feeder.feed(s, "role r{}"), 4000);
        CHECKS.due("station() without the last sign", s.station(), 1 + 16 * 4000);
        // What is left out takes no room: 4,000 signs in rows that are full of others.
        for (int i = 0; i < 500; i++) {
            CHECKS.due("feed " + i, s.feed(0x7F_20_00_20_80_20_09_20L, 0x1F_20_FF_20_0B_20_00_20L, -1), 8 * (i + 1));
        }
        CHECKS.due("feed when it is full", s.feed(0x7F_20_00_20_80_20_09_20L, 0, 0), 4000);
        // As many tokens as signs.
        s = CHECKS.made("");
        Feeder.feed(s, ";".repeat(4000));
        CHECKS.due("station() of 4,000 tokens", s.station(), 1);
        CHECKS.fault(1, "module m{static s=1" + "+1".repeat(1990) + "+@");
        CHECKS.fine("module m{static s=1" + "+1".repeat(1989) + ";}\n");
    }

    /** "10 and 32 .. 126": of all 256 signs, wherever in the three rows they stand. */
    private static void signsOfTheTape() {
        int want = 0;
        StationStarter s = new StationStarter();
        for (int sign = 0; sign < 256; sign++) {
            want += sign == 10 || sign >= 32 && sign <= 126 ? 1 : 0;
            CHECKS.due("feed of sign " + sign, s.feed((long) sign << sign % 8 * 8, 0, 0), want);
        }
        for (int at = 0; at < 24; at++) {
            long row = (long) 'a' << (7 - at % 8) * 8;
            want++;
            int got = s.feed(at < 8 ? row : 0, at >= 8 && at < 16 ? row : 0, at >= 16 ? row : 0);
            CHECKS.due("feed of a at " + at, got, want);
        }
    }

    /** "others than 10 and 32 .. 126 .. are left out": what stands around them comes together. */
    private static void othersAreLeftOut() {
        StationStarter s = new StationStarter();
        s.feed(0x6D_6F_00_64_75_09_6C_65L, 0x0A_6D_7F_31_80_FF_1F_7BL, 0x7D_0D_00_00_00_00_00_00L);
        CHECKS.due("count(13) of module, m1, { and }", s.count(13), 11);
        CHECKS.due("station()", s.station(), 0);
        CHECKS.due("named(1) of m1", named(s, "m1", 1), 0);
    }

    /** "the bytes of a, b, c, of each the highest first", behind what was there. */
    private static void theHighestFirst() {
        StationStarter s = CHECKS.made("module abcdefghijkl{}module lkjihgfedcba{}");
        s.feed(0x61_62_63_64_65_66_67_68L, 0x69_6A_6B_6CL, 0);
        CHECKS.due("named(1)", s.named(1), 0);
        s.feed(0x6C_6BL, 0x6A_69_00_00_00_00_00_00L, 0x68_67_66_65_64_63_62_61L);
        CHECKS.due("named(1)", s.named(1), 1);
        s.feed(0x61_62_63_64_65_66_67_68L, 0, 0);
        s.feed(0, 0, 0);
        s.feed(0, 0, 0x69_6A_6B_6CL);
        CHECKS.due("named(1)", s.named(1), 0);
    }

    /** "what reads it takes it: it is empty then" */
    private static void itIsEmptyThen() {
        StationStarter s = new StationStarter();
        for (String text : new String[] {"module m { }", "module", "@", "", "m", "m m", "nix"}) {
            Feeder.feed(s, text);
            s.station();
            CHECKS.due("count(13) behind station() of " + text, s.count(13), 0);
            for (int sort = -1; sort < 4; sort++) {
                Feeder.feed(s, text);
                s.named(sort);
                CHECKS.due("count(13) behind named(" + sort + ") of " + text, s.count(13), 0);
            }
        }
        Feeder.feed(s, "y".repeat(4000));
        CHECKS.due("named(0) of a full tape", s.named(0), -1);
        CHECKS.due("feed behind it", Feeder.feed(s, "a"), 1);
    }

    /** "TOKENS, each as long as can be" */
    private static void tokensAsLongAsCanBe() {
        CHECKS.fault(1, "@modulem { }");
        CHECKS.fault(1, "@module1 { }");
        CHECKS.fault(1, "device d from 0 @to5 pace 1;");
        CHECKS.fault(2, "module m { @static1 = 1; }");
        CHECKS.fault(1, "module m12m @x { }");
        CHECKS.fine("module m { static s = 12 + 3; static kinds = s; check kinds; }");
        CHECKS.fault(2, "module m { check @kinds; }");
        CHECKS.fault(4, "module m { fail @99; }");
    }

    /** "blanks (10, 32) between where one likes": none, one, many, of both. */
    private static void blanksWhereOneLikes() {
        String spare = "device d from 0 to 9 pace 1 ; acting role r like q { } module m on b has r { static s = - ( 1 ) ; "
                + "if s < 2 { m . s = of d ; } else { order d 5 ; } closing { touch r ; } } demand w { fail 1 ; }";
        String ahead = "role q { } module b { } ";
        CHECKS.fine(ahead + spare);
        CHECKS.fine(ahead + spare.replace(" ", "\n"));
        CHECKS.fine("\n " + (ahead + spare).replace(" ", "  \n\n ") + "\n");
        CHECKS.fine(ahead + spare.replaceAll(" ?([^a-z0-9 ]) ?", "$1"));
        CHECKS.fine("\n\n");
    }

    /** "WORDS (a letter a .. z, then letters and digits, 12 at most)"; "a longer WORD .. at its first sign" is none. */
    private static void wordsOfTwelve() {
        CHECKS.fine("module a { }");
        CHECKS.fine("module z9 { }");
        CHECKS.fine("module abcdefghijkl { }");
        CHECKS.fine("module a00000000000 { }");
        CHECKS.fault(1, "module @abcdefghijklm { }");
        CHECKS.fault(1, "module @a000000000000 { }");
        CHECKS.fault(1, "module @" + "z".repeat(60) + " { }");
        CHECKS.fault(1, "module m { touch @abcdefghijklm; }");
        CHECKS.fault(1, "module m { check @abcdefghijklm; }");
        CHECKS.fault(1, "module m { @abcdefghijklm = 1; }");
        CHECKS.fault(1, "module @0a { }");
        CHECKS.fault(1, "module a@B { }");
        CHECKS.fault(1, "module @_a { }");
        // Two long ones are two NAMES if their last signs differ alone.
        CHECKS.fine("module zzzzzzzzzzzy { } module zzzzzzzzzzzz { } module yzzzzzzzzzzz { }");
        CHECKS.fault(3, "module zzzzzzzzzzzz { } module @zzzzzzzzzzzz { }");
    }

    /** "NUMBERS (1 to 9 digits; a letter may stand right behind)"; a longer one is none, at its first sign. */
    private static void numbersOfNine() {
        CHECKS.fine("device d from 0to 999999999pace 999999999;");
        CHECKS.fine("device d from 000000000 to 000000001 pace 000000001;");
        CHECKS.fault(1, "device d from @0000000000 to 1 pace 1;");
        CHECKS.fault(1, "device d from 0 to @1000000000to 1 pace 1;");
        CHECKS.fault(1, "device d from 5 to @0000000004 pace 1;");
        CHECKS.fault(1, "device d from 0 to 1 pace @0000000000;");
        CHECKS.fault(1, "module m { fail @0000000010; }");
        CHECKS.fault(1, "module m { fail @" + "1".repeat(40) + "; }");
        CHECKS.fault(1, "module m { setting k = - @1234567890; }");
        CHECKS.fault(1, "module m { check @12345678901234567890; }");
        CHECKS.fault(1, "module m { check 5@x; }");
        CHECKS.fault(2, "module m { static s = 1; check @s5; }");
    }

    /** "signs { } ( ) , ; = < + - * / % . ; all else .. is none": each sign of the TAPE where a joint is due. */
    private static void oneSignBetween() {
        for (char sign = 31; sign <= 126; sign++) {
            char now = sign == 31 ? '\n' : sign;
            String text = "demand d { check 1 " + now + " 2; }";
            int want = 1 + 16 * 19;
            if ("=<+-*/%".indexOf(now) >= 0) {
                want = 0;
            } else if (" \n;".indexOf(now) >= 0) {
                want = 1 + 16 * 21;
            }
            CHECKS.due("station() of " + text, Feeder.station(new StationStarter(), text), want);
        }
    }

    /** "any number of", none too. */
    private static void anyNumberOf() {
        CHECKS.fine("");
        CHECKS.fine(" ");
        CHECKS.fine("demand w { } module m { } device d from 0 to 0 pace 1; role r { } demand v { }");
        CHECKS.fault(1, "@;");
        CHECKS.fault(1, "module m { } @;");
        CHECKS.fault(1, "module m { } @}");
    }

    /** What stands in [ ] may be left out, and stands once alone where it stands. */
    private static void optionalParts() {
        String ahead = "role r { } role q { } module b { } ";
        CHECKS.fine(ahead + "module m { } module n on b { } module o has r { } module p on b has r, q { }");
        CHECKS.fine(ahead + "acting role x { } acting role y like r { } role z like r, q { }");
        CHECKS.fault(1, ahead + "module m on b @on b { }");
        CHECKS.fault(1, ahead + "module m on b@, b { }");
        CHECKS.fault(1, ahead + "module m has r @has q { }");
        CHECKS.fault(1, ahead + "module m has r @on b { }");
        CHECKS.fault(1, ahead + "module m has @{ }");
        CHECKS.fault(1, ahead + "role x like r @like q { }");
        CHECKS.fault(1, ahead + "role x @on b { }");
        CHECKS.fault(1, ahead + "acting @acting role x { }");
        CHECKS.fault(1, ahead + "acting @module m { }");
        CHECKS.fault(1, ahead + "module m { if 1 { } else { } @else { } }");
        CHECKS.fault(1, ahead + "module m { try { } @}");
        CHECKS.fault(1, ahead + "module m { try { } on { } @on { } }");
    }

    /** "BODY: { ITEM .. [ closing BLOCK ] }, of a role without closing" */
    private static void theBody() {
        CHECKS.fine("module m { } role r { }");
        CHECKS.fine("module m { closing { } }");
        CHECKS.fine("module m { fail 1; setting a = 1; fail 2; static b = 2; fail 3; closing { fail 4; } }");
        CHECKS.fault(1, "module m { closing { } @closing { } }");
        CHECKS.fault(1, "module m { closing { } @fail 1; }");
        CHECKS.fault(1, "role r { @closing { } }");
        CHECKS.fault(1, "acting role r { static s = 1; @closing { } }");
        CHECKS.fault(1, "module m { closing { @setting k = 1; } }");
        CHECKS.fault(1, "module m { closing { @closing { } } }");
        CHECKS.fault(1, "module m @;");
        CHECKS.fault(1, "module m@");
    }

    /** "BLOCK: { STATEMENT .. } in signs, none, too." */
    private static void blocksOfNone() {
        CHECKS.fine("demand w { } module m { if 1 { } if 1 { } else { } while 0 { } try { } on { } closing { } }");
        CHECKS.fault(1, "demand w { @{ } }");
        CHECKS.fault(1, "demand w @fail 1;");
        CHECKS.fault(1, "demand w { if 1 @fail 1; }");
    }

    /** "E: SUM [ < SUM or = SUM ]": one at most in each E. */
    private static void oneComparison() {
        for (String joint : new String[] {"<", "="}) {
            CHECKS.fine("demand w { check 1 + 2 " + joint + " 3 - 4 * 5; }");
            CHECKS.fine("demand w { check (1 " + joint + " 2) " + joint + " (3 " + joint + " 4); }");
            CHECKS.fault(1, "demand w { check 1 " + joint + " 2 @< 3; }");
            CHECKS.fault(1, "demand w { check 1 " + joint + " 2 @= 3; }");
            CHECKS.fault(1, "demand w { check (1 " + joint + " 2 @= 3); }");
            CHECKS.fault(1, "demand w { check @" + joint + " 2; }");
            CHECKS.fault(1, "demand w { check 1 " + joint + "@; }");
            for (String start : new String[] {"static t =", "s =", "m.s =", "order d", "check", "if", "while"}) {
                String end = start.equals("if") || start.equals("while") ? " { } }" : "; }";
                String head = DEVICE + "module m { static s = 1; " + start + " s " + joint + " 1 + s";
                CHECKS.fine(head + end);
                CHECKS.fault(1, head + " @< 1" + end);
                CHECKS.fault(1, head + " @= 1" + end);
            }
        }
    }

    /** "NAMES are WORDS but device from to .. kind beats." */
    private static void keywordsAreNoNames() {
        String ahead = DEVICE + "role r { } module b { static s = 1; } ";
        for (String key : Model.KEYS) {
            CHECKS.fault(1, "device @" + key + " from 0 to 1 pace 1;");
            CHECKS.fault(1, "module @" + key + " { }");
            CHECKS.fault(1, "acting role @" + key + " { }");
            CHECKS.fault(1, "demand @" + key + " { }");
            CHECKS.fault(1, "module m { setting @" + key + " = 1; }");
            CHECKS.fault(1, "module m { static @" + key + " = 1; }");
            CHECKS.fault(1, ahead + "module m on @" + key + " { }");
            CHECKS.fault(1, ahead + "module m has @" + key + " { }");
            CHECKS.fault(1, ahead + "role q like r, @" + key + " { }");
            CHECKS.fault(1, ahead + "demand w { touch @" + key + "; }");
            CHECKS.fault(1, ahead + "demand w { order @" + key + " 1; }");
            CHECKS.fault(1, ahead + "demand w { check of @" + key + "; }");
            CHECKS.fault(1, ahead + "demand w { b.@" + key + " = 1; }");
            CHECKS.fine("module " + key + "x { static x" + key + " = 1; }");
            CHECKS.due("named(1) of " + key, named(CHECKS.made("module m { }"), key, 1), -1);
        }
    }

    /** "A device's, a unit's, a demand's NAME is none of another one's" */
    private static void namesOfAnother() {
        String[] first = {"device n from 0 to 1 pace 1; ", "role n { } ", "module n { } ", "demand n { } "};
        String[] second = {"device @n from 0 to 1 pace 1;", "acting role @n { }", "module @n { }", "demand @n { }"};
        for (String one : first) {
            for (String other : second) {
                CHECKS.fault(3, one + other);
                CHECKS.fine(one + other.replace("@n", "n1"));
            }
        }
    }

    /** "a unit's settings' and statics' are none of each other's in it" */
    private static void namesInAUnit() {
        for (String one : new String[] {"setting", "static"}) {
            for (String other : new String[] {"setting", "static"}) {
                CHECKS.fault(3, "module m { " + one + " a = 1; " + other + " @a = 1; }");
                CHECKS.fine("module b { " + one + " a = 1; } module m on b { " + other + " a = 1; }");
                CHECKS.fine("role r { " + one + " a = 1; } module m has r { " + other + " a = 1; }");
                CHECKS.fine(DEVICE + "module m { " + one + " m = 1; " + other + " d = 1; } demand w { }");
            }
        }
    }

    /** "What is named is told ahead (a setting, static behind its ; )" */
    private static void toldAhead() {
        CHECKS.fault(2, "module m { order @d 1; } " + DEVICE);
        CHECKS.fault(2, "module m { check of @d; } " + DEVICE);
        CHECKS.fault(2, "module m on @n { } module n { }");
        CHECKS.fault(2, "module m on @m { }");
        CHECKS.fault(2, "role r like @r { }");
        CHECKS.fault(2, "module m has @r { } role r { }");
        CHECKS.fault(2, "module m { static s = @s; }");
        CHECKS.fault(2, "module m { static s = 1 + @s; }");
        CHECKS.fault(2, "module m { check @k; setting k = 1; }");
        CHECKS.fine("module m { static s = 1; static t = s; setting k = 1; s = k + t; }");
        // Another sort's NAME is not told where this one must be.
        CHECKS.fault(2, DEVICE + "module m on @d { }");
        CHECKS.fault(2, "demand w { } module m has @w { }");
        CHECKS.fault(2, "module m { } demand w { order @m 1; }");
        CHECKS.fault(2, "module m { } demand w { check of @w; }");
    }

    /** "a UNITNAME (of touch, or ahead of a . ) may be that of any unit in the text" */
    private static void unitnamesOfAny() {
        CHECKS.fine("module m { touch n; n.s = n.k; m.t = 1; static t = 1; } module n { setting k = 1; static s = 1; }");
        CHECKS.fine("demand w { touch r; r.s = 1; } role r { static s = 1; }");
        CHECKS.fine("module m { static s = m.s; }");
        CHECKS.fault(2, DEVICE + "demand w { touch @d; }");
        CHECKS.fault(2, DEVICE + "demand w { check @d.s; }");
        CHECKS.fault(2, "demand w { touch @w; }");
        CHECKS.fault(2, "module m { static s = 1; check @s.s; }");
        CHECKS.fault(2, "module m { static s = 1; touch @s; }");
    }

    /** "A NAME alone (only in a unit: of that one)": in a demand it has no OWNER. */
    private static void aNameAlone() {
        CHECKS.fault(2, "module m { static s = 1; } demand w { @s = 1; }");
        CHECKS.fault(2, "module m { static s = 1; } demand w { check @s; }");
        CHECKS.fault(2, "module m { static s = 1; } demand w { while 1 + @s { } }");
        CHECKS.fault(2, "module m { static s = 1; } module n { @s = 1; }");
        CHECKS.fault(2, "demand w { @nix = 1; }");
        CHECKS.fine("module m { static s = 1; closing { s = s; } } demand w { m.s = m.s; }");
    }

    /**
     * "looked for in that unit, then in its roles in order, each one so with those that it is like, then so in its base:
     * the first unit that has it is its OWNER": read where each has a number of its own.
     */
    private static void theFirstThatHasIt() {
        String[] places = {"", "role a { X } ", "role b like a { X } ", "role c { X } ", "module g { X } ", "role e { X } ",
            "module h on g has e { X } "};
        // The order in which a module m on h has b, c looks: itself, b, a, c, h, e, g.
        int[] looked = {0, 2, 1, 3, 6, 5, 4};
        for (int first = 0; first < looked.length; first++) {
            StringBuilder text = new StringBuilder();
            for (int p = 1; p < places.length; p++) {
                int rank = first;
                while (rank < looked.length && looked[rank] != p) {
                    rank++;
                }
                text.append(places[p].replace("X", rank < looked.length ? "setting x = " + p + ";" : ""));
            }
            String own = first == 0 ? "setting x = 0;" : "";
            text.append("module m on h has b, c { ").append(own).append(" static got = x; } demand w { check m.x = ")
                    .append(looked[first]).append("; touch m; }");
            StationStarter s = CHECKS.made(text.toString());
            CHECKS.due("demand(0, 99) of " + text, s.demand(0, 99), 0);
            CHECKS.due("got of " + text, CHECKS.read(s, 6, 0), looked[first]);
        }
        // A NAME alone is of the unit as it stands there, one behind a . of it as it is at the end.
        StationStarter s = CHECKS.made("module b { setting x = 1; } module m on b { static p = x; static q = m.x; setting x = 2; "
                + "static r = x; } demand w { touch m; }");
        CHECKS.due("demand(0, 99)", s.demand(0, 99), 0);
        CHECKS.due("x ahead of its own", CHECKS.read(s, 1, 0), 1);
        CHECKS.due("m.x ahead of its own", CHECKS.read(s, 1, 1), 2);
        CHECKS.due("x behind its own", CHECKS.read(s, 1, 2), 2);
    }

    /** "A setting can't be set." */
    private static void settingsCannotBeSet() {
        CHECKS.fault(6, "module m { setting k = 1; @k = 1; }");
        CHECKS.fault(6, "module m { setting k = 1; closing { @k = 1; } }");
        CHECKS.fault(6, "module b { setting k = 1; } module m on b { @k = 1; }");
        CHECKS.fault(6, "role r { setting k = 1; } role q like r { @k = 1; }");
        CHECKS.fault(6, "module m { m.@k = 1; setting k = 1; }");
        CHECKS.fault(6, "module b { setting k = 1; } module m on b { } demand w { m.@k = 1; }");
        CHECKS.fine("module b { setting k = 1; } module m on b { static k = 1; k = 2; m.k = b.k; }");
    }

    /** "N: of from, to, pace (1 ..), settings 0 .. 999999999; fail 1 .. 9."; "4 .. to below from" */
    private static void numbersInRange() {
        CHECKS.fine("device d from 0 to 0 pace 1;");
        CHECKS.fine("device d from 999999999 to 999999999 pace 999999999;");
        CHECKS.fine("device d from 7 to 7 pace 7;");
        CHECKS.fault(4, "device d from 7 to @6 pace 7;");
        CHECKS.fault(4, "device d from 999999999 to @999999998 pace 7;");
        CHECKS.fault(4, "device d from 1 to @0 pace 0;");
        CHECKS.fault(4, "device d from 1 to 1 pace @0;");
        CHECKS.fault(4, "device d from 1 to 1 pace @000;");
        for (int n = 1; n <= 9; n++) {
            CHECKS.fine("demand w { fail " + n + "; }");
        }
        CHECKS.fault(4, "demand w { fail @0; }");
        CHECKS.fault(4, "demand w { fail @10; }");
        CHECKS.fault(4, "demand w { fail @999999999; }");
        StationStarter s = CHECKS.made("module m { setting a = 999999999; setting b = - 999999999; setting c = 0; setting d = - 0; "
                + "static p = a; static q = b; static r = c + d; } demand w { touch m; }");
        CHECKS.due("demand(0, 99)", s.demand(0, 99), 0);
        CHECKS.due("the largest setting", CHECKS.read(s, 0, 0), LARGEST);
        CHECKS.due("the least setting", CHECKS.read(s, 0, 1), -LARGEST);
        CHECKS.due("settings of 0", CHECKS.read(s, 0, 2), 0);
        s = CHECKS.made("device d from 999999999 to 999999999 pace 1;");
        CHECKS.due("device(0, 0)", CHECKS.device(s, 0, 0), LARGEST);
    }

    /** "At most 24 devices": "one too many (its first token ..)" */
    private static void mostDevices() {
        String most = times(24, "device d# from 0 to 1 pace 1;");
        CHECKS.due("count(0) of the most", CHECKS.made(most).count(0), 24);
        CHECKS.fault(5, most + "@device e from 0 to 1 pace 1;");
        CHECKS.fault(5, most + "module m { } @device");
        CHECKS.fault(5, most + "@device d0 from 5 to 4 pace 0;");
        StationStarter s = CHECKS.made(most + "demand w { order d23 1; check of d0 = 0; }");
        CHECKS.due("demand(0, 9)", s.demand(0, 9), 0);
        CHECKS.dueOrder(s, 0, -1, 23, 1, 1);
    }

    /** "24 units": modules and roles are counted together. */
    private static void mostUnits() {
        String most = times(24, "module m#{}");
        CHECKS.due("count(1) of the most", CHECKS.made(most).count(1), 24);
        CHECKS.fault(5, most + "@module x { }");
        CHECKS.fault(5, most + "@role x { }");
        CHECKS.fault(5, most + "@acting role x { }");
        CHECKS.fault(5, most + "@acting");
        CHECKS.fault(5, times(24, "role r#{}") + "@module x { }");
        CHECKS.fault(5, times(8, "role r#{}acting role a#{}module m#{}") + "demand w { } @module m0 { }");
        CHECKS.fine(most + "demand w { }" + DEVICE);
    }

    /** "20 demands" */
    private static void mostDemands() {
        String most = times(20, "demand w#{}");
        CHECKS.due("count(2) of the most", CHECKS.made(most).count(2), 20);
        CHECKS.fault(5, most + "@demand x { }");
        CHECKS.fault(5, most + "@demand w0 { }");
        CHECKS.fine(most + "module m { }" + DEVICE);
        StationStarter s = CHECKS.made(times(19, "demand w#{}") + "demand w19 { fail 9; }");
        CHECKS.due("demand(18, 1)", s.demand(18, 1), 0);
        CHECKS.due("demand(19, 1)", s.demand(19, 1), 3);
        CHECKS.due("demand(20, 1)", s.demand(20, 1), 4);
    }

    /** "8 settings and statics of a unit": together; "of settings, statics, roles their NAME" */
    private static void mostItems() {
        for (int settings = 0; settings <= 8; settings++) {
            String most = "module m { " + times(settings, "setting a# = 1;") + times(8 - settings, "static b# = 1;");
            StationStarter s = CHECKS.made(most + " }");
            CHECKS.due("unit(0, 6)", CHECKS.unit(s, 0, 6), 8 - settings);
            CHECKS.due("unit(0, 7)", CHECKS.unit(s, 0, 7), settings);
            CHECKS.fault(5, most + " setting @x = 1; }");
            CHECKS.fault(5, most + " static @x = 1; }");
            CHECKS.fault(5, most + " fail 1; static @x");
        }
        // Of each unit: those of its base and roles are not counted.
        String eight = times(8, "static a# = 1;");
        CHECKS.fine("role r { " + eight + " } module b has r { " + eight + " } module m on b has r { "
                + times(8, "static b# = a#;") + " }");
    }

    /** "6 roles of a unit" */
    private static void mostRoles() {
        String ahead = times(7, "role r#{}");
        String six = "r0, r1, r2, r3, r4, r5";
        StationStarter s = CHECKS.made(ahead + "module m has " + six + " { } role q like " + six + " { }");
        CHECKS.due("unit(7, 5)", CHECKS.unit(s, 7, 5), 6);
        CHECKS.due("unit(8, 5)", CHECKS.unit(s, 8, 5), 6);
        CHECKS.fault(5, ahead + "module m has " + six + ", @r6 { }");
        CHECKS.fault(5, ahead + "role q like " + six + ", @r6 { }");
        CHECKS.fault(1, ahead + "role q like " + six + ", @{ }");
        // What these are like is not counted.
        CHECKS.fine(ahead + "role q like " + six + " { } module m has q, " + six.replace(", r5", "") + " { }");
    }

    /** "10 BLOCKS, PARTS within one another"; "a BLOCK or PART within 10 others" */
    private static void mostWithin() {
        for (int blocks = 1; blocks <= 10; blocks++) {
            String head = "demand w {" + "try {".repeat(blocks - 1);
            String tail = "} on { }".repeat(blocks - 1) + "}";
            CHECKS.fine(head + "fail 1;" + tail);
            int parts = 10 - blocks;
            CHECKS.fault(5, head + "check " + "(".repeat(parts) + "@1" + ")".repeat(parts) + ";" + tail);
            if (parts > 0) {
                CHECKS.fine(head + "check " + "(".repeat(parts - 1) + "1" + ")".repeat(parts - 1) + ";" + tail);
                CHECKS.fine(head + "check " + "- ".repeat(parts - 1) + "1;" + tail);
            }
        }
        CHECKS.fault(5, "demand w {" + "try {".repeat(9) + "try @{");
        CHECKS.fault(5, "module m {" + "try {".repeat(10) + "try @{");
        CHECKS.fine("module m {" + "try {".repeat(10) + "} on { }".repeat(10) + "}");
        CHECKS.fault(5, "module m { closing {" + "try {".repeat(9) + "try @{");
        CHECKS.fault(5, "module m { static s = " + "-".repeat(10) + "@kind; }");
        CHECKS.fine("module m { static s = " + "-".repeat(9) + "kind; }");
        // A run of BLOCKS and PARTS that are beside one another has no bound.
        CHECKS.fine("demand w {" + "if (1) { } ".repeat(300) + "}");
    }

    /** "kind + 16 * the place (from 0) of a token, the end being one at the text's length" */
    private static void placesOfFaults() {
        CHECKS.due("a fault at 0", Feeder.station(new StationStarter(), "x"), 1);
        CHECKS.due("a fault at 1", Feeder.station(new StationStarter(), "\nx"), 17);
        CHECKS.due("a fault at 3999", Feeder.station(new StationStarter(), " ".repeat(3999) + "x"), 1 + 16 * 3999);
        CHECKS.due("a fault of 2 far behind", Feeder.station(new StationStarter(),
                " ".repeat(3900) + "module m { touch n; }"), 2 + 16 * 3917);
        CHECKS.fault(1, "module@");
        CHECKS.fault(1, "module \n @");
        CHECKS.fault(1, "module m {@");
        CHECKS.fault(1, "module m { } demand w { m.@");
        CHECKS.fault(1, "acting   @");
        CHECKS.due("the end at 4,000", Feeder.station(new StationStarter(), "module" + " ".repeat(3994)), 1 + 16 * 4000);
    }

    /** "of the first token from the left that is wrong": a later one of a lesser kind does not count. */
    private static void theFirstThatIsWrong() {
        String[] wrong = {"@;", "check @nix;", "static @s = 1;", "fail @0;", "static @i = 1;", "@k = 1;"};
        String head = "module m { static s = 1; setting k = 1; " + times(6, "setting a# = 1;");
        for (int first = 0; first < wrong.length; first++) {
            for (String second : wrong) {
                CHECKS.fault(first + 1, head + wrong[first] + " " + second.replace("@", "") + " }");
            }
        }
    }

    /** "the least" of the kinds that hold for that token. */
    private static void theLeastThatIsWrong() {
        String items = "module m { " + times(8, "static a# = 1;");
        CHECKS.fault(1, items + " static @5 = 1; }");
        CHECKS.fault(1, items + " static @of = 1; }");
        CHECKS.fault(3, items + " static @a7 = 1; }");
        String roles = times(7, "role r#{}") + "module n { } module m has r0, r1, r2, r3, r4, r5, ";
        CHECKS.fault(1, roles + "@of { }");
        CHECKS.fault(2, roles + "@x { }");
        CHECKS.fault(3, roles + "@r0 { }");
        CHECKS.fault(5, roles + "@r6 { }");
        CHECKS.fault(5, roles + "@n { }");
        String deep = "module m { setting k = 1; static s = " + "-".repeat(10);
        CHECKS.fault(1, deep + "@); }");
        CHECKS.fault(2, deep + "@x; }");
        CHECKS.fault(5, deep + "@k; }");
        CHECKS.fault(5, deep + "@x.y; }");
        CHECKS.fault(1, "demand w {" + "try {".repeat(9) + "try @}");
        CHECKS.fault(1, "module m { fail @1000000000; }");
        CHECKS.fault(1, "module m { fail @s; }");
    }

    /** "UNITNAMES .. and what is behind these, are looked for when all is read, and nothing else is wrong." */
    private static void whenAllIsRead() {
        CHECKS.fault(2, "module m { touch @x; touch y; }");
        CHECKS.fault(2, "module m { check 1 + @x.a; touch y; }");
        CHECKS.fault(2, "module m { static a = 1; m.@b = x.c; }");
        CHECKS.fault(6, "module m { setting a = 1; m.@a = x.c; }");
        CHECKS.fault(2, "module m { setting a = 1; touch @x; m.a = 1; }");
        CHECKS.fault(2, "module m { closing { touch @x; } } demand w { touch y; }");
        CHECKS.fault(1, "module m { touch x; m.s = 1; } @x");
        CHECKS.fault(2, "module m { touch x; check @s; }");
        CHECKS.fault(3, "module m { touch x; } demand @m { }");
        CHECKS.fault(4, "module m { touch x; } demand w { fail @0; }");
        CHECKS.fault(5, times(24, "module m#{touch x;}") + "@role x { }");
        CHECKS.fault(6, "module m { touch x; } role r like @m { }");
        CHECKS.fault(1, "module m { touch x; m.@5 = 1; }");
        CHECKS.fault(1, "module m { touch x@");
    }

    private static StationStarter used() {
        StationStarter s = CHECKS.made("device d from 3 to 9 pace 2; module b { static x = 5; static y = m.z; order d 8; } "
                + "module m on b { static z = 2; } module f { fail 4; } demand w { touch m; } demand v { touch f; }");
        CHECKS.due("demand(0, 99)", s.demand(0, 99), 0);
        CHECKS.due("heal(2)", s.heal(2), 1);
        CHECKS.due("foresee(0, 99)", s.foresee(0, 99), 0);
        CHECKS.due("heal(1)", s.heal(1), 2);
        CHECKS.due("foresee(0, 99)", s.foresee(0, 99), 2);
        CHECKS.due("demand(0, 99)", s.demand(0, 99), 0);
        CHECKS.due("demand(1, 99)", s.demand(1, 99), 1);
        CHECKS.due("plan(0, 7)", s.plan(0, 7), true);
        CHECKS.due("beat(2)", s.beat(2), 2);
        CHECKS.due("close()", s.close(), 2);
        return s;
    }

    /**
     * "A STATION without a FAULT takes the place of the one there was: nothing is up, all editions are 0, devices stand at
     * their from, the BEAT is 0, all books are empty; only STEPS stay counted."
     */
    private static void aNewStation() {
        StationStarter s = used();
        int steps = s.count(9);
        CHECKS.due("station()", Feeder.station(s, "device e from 4 to 5 pace 1; module b { static x = 1; } module m { } demand w { touch b; }"), 0);
        int[] counts = {1, 2, 1, 0, 0, 0, 0, 0, 0, steps, 0, 0, 0, 0, -1};
        for (int what = 0; what < counts.length; what++) {
            CHECKS.due("count(" + what + ")", s.count(what), counts[what]);
        }
        for (int u = 0; u < 2; u++) {
            CHECKS.due("unit(" + u + ", 0)", CHECKS.unit(s, u, 0), 0);
            CHECKS.due("unit(" + u + ", 1)", CHECKS.unit(s, u, 1), 0);
            CHECKS.dueCause(s, u);
            CHECKS.dueNeeds(s, u);
        }
        CHECKS.due("read(0, 0)", CHECKS.read(s, 0, 0), 0);
        CHECKS.due("unit(2, 0)", CHECKS.unit(s, 2, 0), Checks.THROWS);
        CHECKS.due("device(0, 0)", CHECKS.device(s, 0, 0), 4);
        CHECKS.due("device(0, 1)", CHECKS.device(s, 0, 1), 4);
        CHECKS.dueUp(s, 0, -1, -1, -1);
        CHECKS.dueHalf(s, 0, -1, -1, -1);
        CHECKS.dueOrder(s, 0, -1, -1, -1, -1);
        CHECKS.dueClosed(s, 0, -1, -1);
        CHECKS.due("foreseen(0)", s.foreseen(0), -1);
        CHECKS.dueEnded(s);
        CHECKS.due("leans(1, 0)", s.leans(1, 0), 0);
        CHECKS.due("named(1) of f", named(s, "f", 1), -1);
        CHECKS.due("demand(0, 9)", s.demand(0, 9), 0);
        CHECKS.dueUp(s, 0, 0, 0, 0);
        CHECKS.due("count(9)", s.count(9), steps + 3);
        CHECKS.due("close()", s.close(), 1);
    }

    /** "Else all stays." */
    private static void elseAllStays() {
        StationStarter s = used();
        int[] counts = new int[14];
        for (int what = 0; what < 13; what++) {
            counts[what] = s.count(what);
        }
        for (String text : new String[] {"module", "module x { touch y; }", times(25, "module x#{}"), "demand v { } demand v { }"}) {
            CHECKS.due("station() of " + text + " has a fault", Feeder.station(s, text) > 0, true);
            for (int what = 0; what < 14; what++) {
                CHECKS.due("count(" + what + ")", s.count(what), counts[what]);
            }
            CHECKS.dueEnded(s, 20, 4);
            CHECKS.due("foreseen(0)", s.foreseen(0), 0);
            CHECKS.due("foreseen(1)", s.foreseen(1), 1);
            CHECKS.due("unit(0, 0)", CHECKS.unit(s, 0, 0), 4);
            CHECKS.due("unit(1, 1)", CHECKS.unit(s, 1, 1), 1);
            CHECKS.due("unit(1, 4)", CHECKS.unit(s, 1, 4), 0);
            CHECKS.due("read(0, 0)", CHECKS.read(s, 0, 0), 5);
            CHECKS.dueCause(s, 2, 20, 4);
            CHECKS.dueNeeds(s, 0, 1);
            CHECKS.due("leans(1, 0)", s.leans(1, 0), 1);
            CHECKS.due("device(0, 0)", CHECKS.device(s, 0, 0), 7);
            CHECKS.dueUp(s, 3, 1, 1, 0);
            CHECKS.dueHalf(s, 1, 0, 1, 0);
            CHECKS.dueOrder(s, 1, 0, 0, 8, 1);
            CHECKS.dueClosed(s, 1, 0, 0);
            CHECKS.due("demand(0, 99)", s.demand(0, 99), 5);
            CHECKS.due("named(2) of v", named(s, "v", 2), 1);
        }
    }

    private static int named(StationStarter s, String word, int sort) {
        Feeder.feed(s, word);
        return s.named(sort);
    }

    /** "its number .. as they are told; NONE if there is none such, no one WORD, another sort." */
    private static void named() {
        StationStarter s = CHECKS.made(times(24, "device d# from 0 to 1 pace 1; module m#{}") + times(20, "demand w#{}"));
        for (int i = 0; i < 24; i++) {
            CHECKS.due("named(0)", named(s, "d" + i, 0), i);
            CHECKS.due("named(1)", named(s, "m" + i, 1), i);
            CHECKS.due("named(2)", named(s, "w" + i, 2), i < 20 ? i : -1);
        }
        CHECKS.due("named(0) of a unit", named(s, "m0", 0), -1);
        CHECKS.due("named(1) of a demand", named(s, "w0", 1), -1);
        CHECKS.due("named(2) of a device", named(s, "d0", 2), -1);
        CHECKS.due("named(1) of none such", named(s, "m24", 1), -1);
        for (int sort : new int[] {-1, 3, 4, Integer.MIN_VALUE, Integer.MAX_VALUE}) {
            for (String word : new String[] {"d0", "m0", "w0"}) {
                CHECKS.due("named(" + sort + ")", named(s, word, sort), -1);
            }
        }
        for (String none : new String[] {"", " \n", "m0 m0", "m0m0", "m0;", ";", "0", "m0 0", "0m0", "M0", "m0@", "m 0", "module",
            "m000000000000"}) {
            CHECKS.due("named(1) of " + none, named(s, none, 1), -1);
        }
        CHECKS.due("named(1) with blanks", named(s, " \n m0 \n ", 1), 0);
        CHECKS.due("named(1) on a full tape", named(s, " ".repeat(3997) + "m23", 1), 23);
        CHECKS.due("named(1) cut by a full tape", named(s, " ".repeat(3998) + "m23", 1), 2);
    }
}
