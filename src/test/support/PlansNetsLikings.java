/** Promises 20 to 32: plans, the net, likings. */
final class PlansNetsLikings {
    private static final String FALLING = "{n6;w060;w150;w240;w330;w420;w510;}";
    private static final String RISING = "{n6;w010;w120;w230;w340;w450;w560;}";
    private static final String TWELVE = "12*compare(0,1)";
    /** The net of twelve that sorts six. */
    private static final String SIX = "{n6;c05;c13;c24;c12;c34;c03;c25;c01;c23;c45;c12;c34;}";
    private static final String ALL_LIKED = "{n6;l01;l02;l03;l04;l05;l12;l13;l14;l15;l23;l24;l25;l34;l35;l45;}";

    static void all(Sentences s) {
        plans(s);
        planOneBehindTheOther(s);
        pairs(s);
        cup(s);
        insert(s);
        merge(s);
        half(s);
        found(s);
        compare(s);
        clear(s);
        sortsAndGap(s);
        rounds(s);
        through(s);
        idle(s);
        mends(s);
        like(s);
        loops(s);
        turns(s);
    }

    private static void plans(Sentences s) {
        String asTheyAre = "PLANS on STONES as they are (all by a right SCALE; of alike ones the lesser number counts as heavier), KINDS:";
        s.of(20, asTheyAre,
            "{n5;s59;w499;} found(0,0)=4 found(1,0)=4 found(2,0)=4 found(3,0)=4 found(4,0)=4 found(5,0)=4 plan(2)=4",
            "{n5;s29;b412;b422;b432;b402;} found(0,0)=0 found(4,4)=4",
            "found(0,0)=0 found(0,1)=2 found(1,0)=0 found(1,1)=2 found(2,0)=0 found(2,1)=1 found(3,2)=2 found(4,1)=1 found(5,0)=0",
            "{n2;} found(0,0)=0 found(0,1)=1 found(1,1)=1 found(2,1)=1 found(3,0)=0 found(4,0)=0 found(5,1)=1",
            "{w210;w120;} found(3,0)=1 found(3,1)=0 found(3,2)=2 found(0,1)=2 found(2,1)=0");
        s.same(20, asTheyAre, Settings.MUCH + " plan(0) plan(1) plan(2) plan(3) plan(4) plan(5) found(2,0) found(5,3)", Settings.MUCH);
        s.of(20, "how often a PLAN weighs;", "plan(0)=3 plan(1)=3 plan(2)=3 plan(3)=2 plan(4)=2 plan(5)=2",
            "{n2;} plan(0)=1 plan(1)=1 plan(2)=1 plan(3)=1 plan(4)=1 plan(5)=1",
            "{n6;} plan(0)=9 plan(1)=7 plan(2)=7 plan(3)=8 plan(4)=7 plan(5)=7");
        s.of(20, "How often a PLAN weighs.", FALLING + " plan(0)=9 plan(1)=7 plan(2)=7 plan(3)=8 plan(4)=7 plan(5)=7 count(1)=0",
            RISING + " plan(0)=9 plan(1)=7 plan(2)=6 plan(3)=11 plan(4)=9 plan(5)=9");
        s.of(20, "-2.", "plan(-1)=-2 plan(6)=-2 plan(MIN)=-2 plan(MAX)=-2 plan(0)=3 plan(5)=2 count(12)=4");
        s.refused(20, "-2.", Settings.MUCH, "plan(-1)=-2 plan(6)=-2");
    }

    private static void planOneBehindTheOther(Sentences s) {
        s.of(20, "0 PLAN: the heaviest of all, one behind the other, then the lightest of all others likewise;",
            "{n2;w199;} plan(0)=1 found(0,0)=1 found(0,1)=0", "{w110;w230;} plan(0)=3 found(0,0)=2 found(0,1)=1",
            "{n4;w01;w15;w21;w35;} plan(0)=5 found(0,0)=1 found(0,1)=2", "{n5;w35;} plan(0)=7 found(0,0)=0 found(0,1)=3",
            "{n6;w07;w56;} plan(0)=9 found(0,0)=1 found(0,1)=5", "{n6;w51;w420;} found(0,0)=4 found(0,1)=5");
    }

    private static void pairs(Sentences s) {
        s.of(20, "1 PAIRS: STONES in twos by numbers (the last one alone, if odd), the heavier ones then one behind the other for the heaviest,"
            + " the lighter ones for the lightest (one alone in both);",
            "{n2;w199;} plan(1)=1 found(1,0)=1 found(1,1)=0", "plan(1)=3", "{n4;} plan(1)=4 found(1,0)=0 found(1,1)=3", "{n5;} plan(1)=6 found(1,1)=4", "{n6;} plan(1)=7",
            "{w299;} plan(1)=3 found(1,0)=2 found(1,1)=1", "{w21;} plan(1)=3 found(1,0)=0 found(1,1)=2",
            "{n5;w499;} found(1,0)=4 found(1,1)=3 {w41;} found(1,0)=0 found(1,1)=4", "{n4;w01;w15;w21;w35;} found(1,0)=1 found(1,1)=2",
            "{n6;w599;w41;} found(1,0)=5 found(1,1)=4");
    }

    private static void cup(Sentences s) {
        s.of(20, "2 CUP: rounds of neighbours as they are left (the last one alone goes on), for the heaviest; then the heaviest of those whom it beat,"
            + " one behind the other as it beat them;",
            "{n2;w199;} plan(2)=1 found(2,0)=1 found(2,1)=0", "plan(2)=3 found(2,1)=1 {w299;} plan(2)=2 found(2,0)=2 found(2,1)=0",
            "{n4;} plan(2)=4 {w399;} plan(2)=4 found(2,0)=3 found(2,1)=0", "{n5;} plan(2)=6 found(2,1)=1 {w499;} plan(2)=4 found(2,0)=4 found(2,1)=0",
            "{n6;} plan(2)=7 {w250;} plan(2)=7 found(2,0)=2 found(2,1)=0 {w599;} plan(2)=6 found(2,0)=5 found(2,1)=2 {w449;w599;w25;} found(2,1)=4",
            "{n5;w040;w130;w220;w310;w435;} plan(2)=6 found(2,0)=0 found(2,1)=4 {w039;w438;} found(2,1)=4");
    }

    private static void insert(Sentences s) {
        s.of(20, "3 INSERT: each into the row of those ahead by halves (the middle: of m the one at m cut by 2; the heavier first), from the second on;",
            "{n2;w199;} plan(3)=1 found(3,0)=1 found(3,1)=0",
            "{w030;w120;w210;} plan(3)=2 {w225;} plan(3)=3 found(3,1)=2 {w235;} plan(3)=3 found(3,0)=2",
            "{n4;w040;w130;w220;w310;} plan(3)=4 {w335;} plan(3)=4 found(3,1)=3 {w345;} plan(3)=4 found(3,0)=3 {w325;} plan(3)=4 found(3,2)=3",
            "{n5;w050;w140;w230;w320;w410;} plan(3)=6 {w425;} plan(3)=6 {w435;} plan(3)=6 {w445;} plan(3)=7 {w455;} plan(3)=7",
            FALLING + " plan(3)=8 {w525;} plan(3)=9 {w535;} plan(3)=9 {w545;} plan(3)=8 {w555;} plan(3)=9 {w565;} plan(3)=9",
            RISING + " plan(3)=11 found(3,0)=5 found(3,5)=0");
    }

    private static void merge(Sentences s) {
        s.of(20, "4 MERGE: halves (the first one m cut by 2) in order by MERGE, then both rows, the heavier front goes, till one is empty;",
            "{n2;w199;} plan(4)=1 found(4,0)=1 found(4,1)=0",
            "{w030;w120;w210;} plan(4)=2 {w020;w130;w210;} plan(4)=3 {w010;w120;w230;} plan(4)=3 {w010;w130;w220;} plan(4)=3 {w030;w110;w220;} plan(4)=2",
            "{n4;w040;w130;w220;w310;} plan(4)=4 {w010;w120;w230;w340;} plan(4)=4 {w040;w120;w230;w310;} plan(4)=5",
            "{n5;w050;w140;w230;w320;w410;} plan(4)=5 {w010;w120;w230;w340;w450;} plan(4)=7",
            FALLING + " plan(4)=7 found(4,5)=5", RISING + " plan(4)=9 found(4,0)=5 found(4,5)=0",
            "{n4;} plan(4)=4 found(4,0)=0 found(4,3)=3");
    }

    private static void half(Sentences s) {
        s.of(20, "5 HALF under MERGE: as MERGE, but rows of 3 or fewer by INSERT:",
            "{n2;w199;} plan(5)=1 found(5,0)=1",
            "{w030;w120;w210;} plan(5)=2 {w020;w130;w210;} plan(5)=2 plan(4)=3 {w010;w120;w230;} plan(5)=3 {w030;w110;w220;} plan(5)=3 plan(4)=2",
            "{n4;w010;w120;w230;w340;} plan(5)=4 plan(3)=5 {w040;w120;w230;w310;} plan(5)=5 plan(3)=5",
            "{n5;w050;w140;w220;w330;w410;} plan(5)=5 plan(4)=6",
            "{n6;w050;w160;w240;w320;w430;w510;} plan(5)=7 plan(4)=9",
            FALLING + " plan(5)=7", RISING + " plan(5)=9 found(5,0)=5 found(5,5)=0");
    }

    private static void found(Sentences s) {
        s.of(21, "which STONE it tells at place k: 0 the heaviest, 1 the lightest (PLAN, PAIRS), the second (CUP); of INSERT, MERGE, HALF the k-th in order; -9.",
            "{n4;w020;w140;w210;w330;} found(0,0)=1 found(0,1)=2 found(0,2)=-9 found(1,0)=1 found(1,1)=2 found(1,2)=-9 found(2,0)=1 found(2,1)=3 found(2,2)=-9",
            "{n4;w020;w140;w210;w330;} found(3,0)=1 found(3,1)=3 found(3,2)=0 found(3,3)=2 found(3,4)=-9 found(4,0)=1 found(4,1)=3 found(4,2)=0 found(4,3)=2 found(4,4)=-9"
            + " found(5,0)=1 found(5,1)=3 found(5,2)=0 found(5,3)=2 found(5,4)=-9",
            "{n2;} found(3,1)=1 found(3,2)=-9 found(0,1)=1 found(0,2)=-9", "{n6;} found(4,5)=5 found(4,6)=-9");
        s.of(21, "Which STONE it tells at place k; -9.", "found(0,2)=-9 found(0,MAX)=-9 found(3,3)=-9 found(3,2)=2 found(5,MAX)=-9 count(14)=0 count(12)=0 count(11)=0");
        s.of(21, "-2;", "found(-1,0)=-2 found(6,0)=-2 found(MIN,0)=-2 found(MAX,0)=-2 found(0,0)=0 found(5,0)=0 count(12)=4");
        s.of(21, "-4.", "found(0,-1)=-4 found(5,MIN)=-4 found(0,0)=0 count(14)=2");
        s.of(21, "-2; -4.", "found(6,-1)=-2 found(-1,MIN)=-2 count(12)=2 count(14)=0");
        s.refused(21, "-2; -4.", Settings.MUCH, "found(6,0)=-2 found(-1,-1)=-2 found(0,-1)=-4");
    }

    private static void compare(Sentences s) {
        s.of(22, "THE NET on PLACES 0 .. n less 1:", "compare(0,2)=1 compare(0,3)=-1", "{n2;} compare(0,1)=1 compare(1,2)=-1",
            "{n6;} compare(4,5)=1 compare(0,5)=2 compare(5,6)=-1 compare(0,6)=-1");
        s.of(22, "A COMPARISON more: how many.", "compare(0,1)=1 compare(0,1)=2 compare(1,2)=3 count(2)=3 clear()=3 compare(0,2)=1");
        s.same(22, "A COMPARISON more:", Settings.MUCH_WITHOUT_LETTERS + " compare(1,3)=4", Settings.MUCH_WITHOUT_LETTERS + " {c13;}");
        s.of(22, "-1 either (the lesser is not ahead, too);", "compare(1,0)=-1 compare(2,0)=-1 compare(0,0)=-1 compare(2,2)=-1 compare(0,3)=-1 compare(3,4)=-1"
            + " compare(-1,0)=-1 compare(-2,-1)=-1 compare(0,-1)=-1 compare(MIN,MAX)=-1 compare(3,0)=-1 count(2)=0 count(11)=11 compare(0,1)=1 compare(1,2)=2 compare(0,2)=3");
        s.of(22, "-6 12.", "compare(0,1)=1..11 compare(0,2)=12 compare(0,1)=-6 compare(1,2)=-6 count(2)=12 count(16)=2 clear()=12 compare(0,1)=1");
        s.of(22, "too); -6 12.", TWELVE + " compare(1,0)=-1 compare(0,3)=-1 compare(1,1)=-1 compare(-1,0)=-1 count(11)=4 count(16)=0");
        s.refused(22, "-1 either (the lesser is not ahead, too); -6 12.", Settings.MUCH, "compare(1,0)=-1 compare(0,4)=-1 compare(-1,0)=-1 compare(2,2)=-1");
        s.refused(22, "-6 12.", Settings.MUCH + " 9*compare(0,3)", "compare(0,1)=-6 compare(3,1)=-1");
    }

    private static void clear(Sentences s) {
        s.of(23, "THE NET is empty: how many it had.", "clear()=0 compare(0,1)=1 clear()=1 clear()=0 count(2)=0",
            "{w230;} " + TWELVE + " clear()=12 rounds()=0 gap()=4 idle()=0 through(0)=0 sorts()=0 compare(0,2)=1 through(0)=2 rounds()=1",
            "{n2;c01;} sorts()=1 clear()=1 sorts()=0");
        s.same(23, "THE NET is empty:", Settings.MUCH_WITHOUT_IMAGE + " compare(0,3) compare(1,2) clear() compare(1,3)", Settings.MUCH_WITHOUT_IMAGE + " clear() compare(1,3)");
    }

    private static void sortsAndGap(Sentences s) {
        s.of(24, "SORTS: whether all rows come in order, the heaviest first (by rows of noughts and ones);",
            "{n2;} sorts()=0 {c01;} sorts()=1", "sorts()=0 {c01;c12;} sorts()=0 {c01;} sorts()=1", "{c01;c02;} sorts()=0 {c12;} sorts()=1",
            SIX + " sorts()=1", SIX.replace("c12;c34;}", "c12;}") + " sorts()=0 compare(3,4)=12 sorts()=1",
            "{n6;c01;c12;c23;c34;c45;c01;c12;c23;c34;c01;c12;c23;} sorts()=0", "{w030;w120;w210;} sorts()=0");
        s.of(24, "SORTS: 1, 0.", "{n2;} sorts()=0 " + TWELVE + " sorts()=1");
        s.of(25, "GAP: how many of these 2 to n do not;",
            "{n2;} gap()=1 {c01;} gap()=0", "gap()=4 {c01;} gap()=3 {c12;} gap()=1 {c01;} gap()=0", "{c02;} gap()=2", "{n4;} gap()=11", "{n5;} gap()=26", "{n6;} gap()=57",
            SIX + " gap()=0", "{n4;c01;c23;c02;c13;} gap()=4", TWELVE + " gap()=3");
        s.of(25, "GAP.", "{w01;w12;w23;} gap()=4 {c12;} gap()=3");
    }

    private static void rounds(Sentences s) {
        s.of(26, "ROUNDS: the fewest, if COMPARISONS of unlike PLACES go at once, in their order;",
            "rounds()=0 {c01;} rounds()=1 {c01;} rounds()=2 {c12;} rounds()=3", "{n4;c01;c23;} rounds()=1 {c12;} rounds()=2 {c03;} rounds()=2",
            "{n4;c01;c12;c23;} rounds()=3", "{n4;c12;c01;c23;} rounds()=2", "{n4;c01;c01;c23;c23;} rounds()=2", "{n6;c05;c14;c23;} rounds()=1",
            "{n6;c01;c12;c23;c34;c45;} rounds()=5", SIX + " rounds()=5", TWELVE + " rounds()=12", "{n6;c01;c02;c03;c45;c45;c34;} rounds()=4");
        s.of(26, "ROUNDS.", "{n2;} rounds()=0 {c01;} rounds()=1 clear()=1 rounds()=0");
    }

    private static void through(Sentences s) {
        s.of(27, "each COMPARISON puts the heavier of both to the lesser PLACE.",
            "{w120;c01;} through(0)=1 through(1)=0 through(2)=2", "{w020;c01;} through(0)=0 through(1)=1", "{w230;c02;} through(0)=2 through(2)=0 through(1)=1",
            "{s19;w211;c12;} through(1)=2 through(2)=1");
        s.of(27, "THROUGH: which STONE is on a PLACE behind it, STONE k on PLACE k at first (alike ones stay);",
            "through(0)=0 through(1)=1 through(2)=2", "{n6;} through(5)=5 {c05;c14;c23;} through(0)=0 through(5)=5 through(2)=2",
            "{c01;c12;c02;} through(0)=0 through(1)=1 through(2)=2 {w211;} through(0)=0 through(1)=2 through(2)=1",
            SIX.replace("c05;", "w11;w22;w33;w44;w55;c05;") + " through(0)=0 through(1)=5 through(2)=4 through(3)=3 through(4)=2 through(5)=1",
            "{n2;w011;c01;} through(0)=0 {w19;w08;} through(0)=1 through(1)=0");
        s.of(27, "THROUGH.", TWELVE + " {w111;} through(0)=1 through(1)=0");
        s.of(27, "-1.", "through(-1)=-1 through(3)=-1 through(MIN)=-1 through(MAX)=-1 through(0)=0 through(2)=2 count(11)=4", "{n6;} through(5)=5 through(6)=-1");
        s.refused(27, "-1.", Settings.MUCH, "through(-1)=-1 through(4)=-1");
    }

    private static void idle(Sentences s) {
        s.of(28, "IDLE: COMPARISONS (bits) that change no row of noughts and ones;",
            "idle()=0 {c01;} idle()=0 {c01;} idle()=2 {c12;} idle()=2 {c01;} idle()=2 {c02;} idle()=18", "{n2;} " + TWELVE + " idle()=4094",
            "{c01;c12;c01;c01;c12;c02;} idle()=56", SIX + " idle()=0", "{w030;w120;c01;} idle()=0", "{n4;c01;c23;c01;c23;} idle()=12",
            "{c02;c01;c12;c01;} idle()=8");
        s.of(28, "IDLE (bits).", "11*compare(0,1) compare(1,2)=12 idle()=2046");
    }

    private static void mends(Sentences s) {
        s.of(29, "MENDS: the COMPARISON (10 times the lesser PLACE, and the other) by which, put at the end, GAP is least, less than now; of several the least; -9.",
            "{n2;} mends()=1 {c01;} mends()=-9", "mends()=2 {c01;} mends()=12 {c12;} mends()=1 {c01;} mends()=-9", "{c02;} mends()=1 {c01;} mends()=12 {c12;} mends()=-9",
            "{n4;c01;c23;c02;c13;} mends()=12", SIX + " mends()=-9", SIX.replace("c12;c34;}", "c12;}") + " mends()=34",
            SIX.replace("c12;c34;}", "c34;}") + " mends()=12", "{n6;c01;c12;c23;c01;c12;c01;c45;} mends()=24",
            TWELVE + " count(2)=12 mends()=12 count(2)=12");
        s.of(29, "MENDS; -9.", "{n2;c01;} mends()=-9 count(13)=0 clear()=1 mends()=1");
        s.same(29, "MENDS; -9.", Settings.MUCH + " mends() idle() rounds() gap() sorts() through(0)", Settings.MUCH);
    }

    private static void like(Sentences s) {
        s.of(30, "LIKINGS: of two STONES at most one way (told the other way it turns).",
            "like(0,1)=1 count(3)=1 like(1,0)=0 count(3)=1 like(1,0)=2 like(0,1)=0 like(0,1)=2 count(3)=1", "like(2,1)=1 turns(0)=0 turns(1)=2 turns(2)=1 like(1,2)=0 turns(1)=1",
            ALL_LIKED + " count(3)=15 like(5,0)=0 count(3)=15 like(0,5)=0 like(4,5)=2 count(3)=15");
        s.of(30, "The first is LIKED better than the second: 2 it was so, 0 the other way, 1 neither.",
            "like(0,1)=1 like(0,1)=2 like(1,0)=0 like(1,0)=2 like(1,2)=1 like(0,2)=1 count(3)=3", ALL_LIKED + " like(0,5)=2 like(5,4)=0 like(5,4)=2");
        s.of(30, "-1 two.", "like(0,0)=-1 like(2,2)=-1 like(0,3)=-1 like(3,0)=-1 like(-1,0)=-1 like(0,-1)=-1 like(MAX,MIN)=-1 count(3)=0 count(11)=7 like(2,0)=1 like(1,2)=1",
            "{n6;} like(5,4)=1 like(5,6)=-1", "{n2;} like(1,0)=1 like(1,2)=-1");
        s.refused(30, "-1 two.", Settings.MUCH, "like(0,0)=-1 like(0,4)=-1 like(-1,0)=-1");
        s.refused(30, "-1 two.", ALL_LIKED, "like(5,5)=-1 like(0,6)=-1");
    }

    private static void loops(Sentences s) {
        s.of(31, "LOOPS: how many threes like one another in a ring.",
            "loops()=0 {l01;l12;} loops()=0 {l20;} loops()=1 {l10;} loops()=0 {l02;l21;} loops()=1", "{n4;l01;l12;l23;l30;} loops()=0 {l02;} loops()=1 {l13;} loops()=2",
            "{n5;l01;l02;l12;l13;l23;l24;l34;l30;l40;l41;} loops()=5", ALL_LIKED + " loops()=0 like(5,0)=0 loops()=4", "{n2;l01;} loops()=0 {l10;} loops()=0",
            "{n6;l01;l12;l20;l34;l45;l53;} loops()=2");
        s.of(31, "LOOPS.", "{n4;l12;l23;l31;} loops()=1");
    }

    private static void turns(Sentences s) {
        s.of(32, "TURNS: the fewest LIKINGS to be turned so that there is no ring of any length;",
            "turns(-1)=0 {l01;l12;} turns(-1)=0 {l20;} turns(-1)=1", "{n4;l01;l12;l23;} turns(-1)=0 {l30;} turns(-1)=1",
            "{n6;l01;l12;l23;l34;l45;} turns(-1)=0 {l50;} turns(-1)=1", "{n6;l01;l12;l20;l34;l45;l53;} turns(-1)=2",
            "{n5;l01;l02;l12;l13;l23;l24;l34;l30;l40;l41;} turns(-1)=3", ALL_LIKED + " turns(-1)=0 like(5,0)=0 turns(-1)=1");
        s.of(32, "the first such order (who is LIKED ahead, by STONES one behind the other; of fewest turned): its k-th; -9.",
            "turns(0)=0 turns(1)=1 turns(2)=2 turns(3)=-9", "{l20;} turns(0)=1 turns(1)=2 turns(2)=0", "{l01;l12;l20;} turns(0)=0 turns(1)=1 turns(2)=2",
            "{l10;l21;l02;} turns(0)=0 turns(1)=2 turns(2)=1", "{n6;l54;l43;l32;l21;l10;} turns(0)=5 turns(1)=4 turns(2)=3 turns(3)=2 turns(4)=1 turns(5)=0 turns(6)=-9",
            "{n2;l10;} turns(0)=1 turns(1)=0 turns(2)=-9", "{n4;l12;l23;l31;l30;} turns(0)=1 turns(1)=2 turns(2)=3 turns(3)=0",
            ALL_LIKED + " turns(0)=0 turns(5)=5 turns(6)=-9");
        s.of(32, "who is LIKED ahead,", "{l10;} turns(0)=1 like(0,1)=0 turns(0)=0 turns(1)=1 turns(-1)=0 {l12;l20;} turns(-1)=1 like(0,2)=0 turns(-1)=0",
            "{n6;l34;l45;l53;} turns(-1)=1 {n3;} turns(-1)=0 turns(0)=0 {n6;l34;l45;l53;} turns(-1)=1 {n3;l10;l20;} turns(-1)=0 turns(0)=1",
            "{l10;} turns(0)=1 {n3;} turns(0)=0 turns(-1)=0 {n6;} turns(5)=5");
        s.of(32, "TURNS (k -1); the order's k-th (-9).", "turns(-1)=0 turns(0)=0 turns(2)=2 turns(3)=-9 turns(MAX)=-9 count(14)=0");
        s.of(32, "-4 below -1.", "turns(-2)=-4 turns(MIN)=-4 turns(-1)=0 count(14)=2");
        s.refused(32, "-4 below -1.", Settings.MUCH, "turns(-2)=-4 turns(MIN)=-4");
        s.same(32, "TURNS (k -1);", Settings.MUCH + " turns(-1) turns(0) loops()", Settings.MUCH);
    }
}
