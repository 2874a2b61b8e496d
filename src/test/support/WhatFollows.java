/** Promises 11 to 19: what the book makes known, and what is wanted. */
final class WhatFollows {
    static void all(Sentences s) {
        above(s);
        ringed(s);
        orders(s);
        next(s);
        liesAndOpen(s);
        whatIsWanted(s);
        tells(s);
        worst(s);
        mean(s);
    }

    private static void above(Sentences s) {
        s.of(11, "KNOWN by the BOOK: a is ABOVE b, if it was told heavier, or is ABOVE one that is (alike ones told nothing).",
            "above(0)=0 above(1)=0 above(2)=0",
            "{n6;b012;b122;b232;b342;b452;} above(0)=62 above(1)=60 above(2)=56 above(3)=48 above(4)=32 above(5)=0",
            "{n6;b540;b430;b320;b210;b100;} above(0)=62 above(4)=32 above(5)=0",
            "{n6;b452;b342;b232;b122;b012;} above(0)=62 above(3)=48",
            "{b010;} above(0)=0 above(1)=1 {b011;} above(0)=0 above(1)=1",
            "{b011;b121;b021;} above(0)=0 above(1)=0 above(2)=0",
            "{b012;b121;} above(0)=2 above(1)=0 above(2)=0",
            "{w199;b012;} above(0)=2 above(1)=0",
            "23*weigh(0,1)=1 above(0)=0 {b012;} above(0)=2 above(1)=0 strike()=23 above(0)=0",
            "{b012;} 22*weigh(0,1)=1 {b122;} above(0)=6");
        s.of(11, "STONES (bits) that one is ABOVE.", "{n6;b502;b512;b522;} above(5)=7 above(0)=0 {b542;b532;} above(5)=31",
            "{b012;b102;b122;} above(0)=7 above(1)=7 above(2)=0");
        s.of(11, "-1.", "above(0)=0 above(2)=0 above(3)=-1 above(-1)=-1 above(MAX)=-1 above(MIN)=-1 count(11)=4",
            "{n6;} above(5)=0 above(6)=-1", "{n2;} above(1)=0 above(2)=-1");
        s.refused(11, "-1.", Settings.MUCH, "above(4)=-1 above(-1)=-1");
    }

    private static void ringed(Sentences s) {
        s.of(12, "RINGED: STONES (bits) that are ABOVE themselves.",
            "ringed()=0 {b012;} ringed()=0 {b011;} ringed()=0 {b102;} ringed()=3 strike()=2 ringed()=0",
            "{b012;b102;b122;} ringed()=3", "{b202;b012;b102;} ringed()=3",
            "{n6;b012;b122;b232;b342;b452;} ringed()=0 {b502;} ringed()=63",
            "{n6;b012;b102;b452;b542;b232;} ringed()=51",
            "23*weigh(0,1)=1 ringed()=0 strike()=22 {b012;b010;} count(1)=24 ringed()=3");
        s.of(12, "RINGED (bits).", "{n4;b232;b322;} ringed()=12", "{n6;b542;b452;} ringed()=48");
    }

    private static void orders(Sentences s) {
        String told = "An ORDER: all STONES one behind the other, the heaviest first, so that who is ABOVE is ahead: ORDERS: how many;"
            + " the first (by STONES one behind the other): its k-th STONE; -9.";
        s.of(13, told,
            "{n2;} orders(-1)=2 orders(0)=0 orders(1)=1 orders(2)=-9", "orders(-1)=6 orders(0)=0 orders(1)=1 orders(2)=2 orders(3)=-9",
            "{n6;} orders(-1)=720 orders(0)=0 orders(5)=5 orders(6)=-9",
            "{b202;b122;} orders(-1)=1 orders(0)=1 orders(1)=2 orders(2)=0 orders(3)=-9",
            "{b102;} orders(-1)=3 orders(0)=1 orders(1)=0 orders(2)=2", "{b120;} orders(-1)=3 orders(0)=0 orders(1)=2 orders(2)=1",
            "{n4;b302;} orders(-1)=12 orders(0)=1 orders(1)=2 orders(2)=3 orders(3)=0 orders(4)=-9",
            "{b011;} orders(-1)=6 orders(0)=0", "{n6;b542;b432;b322;b212;b102;} orders(-1)=1 orders(0)=5 orders(5)=0");
        s.of(13, told, "{b012;b102;} orders(-1)=0 orders(0)=-9 orders(2)=-9 orders(3)=-9 count(14)=0");
        s.of(13, "ORDERS (k -1); the first one's k-th STONE (-9).", "orders(-1)=6 orders(0)=0 orders(2)=2 orders(3)=-9 orders(MAX)=-9 count(14)=0");
        s.of(13, "so that who is ABOVE is ahead:", "{b012;b122;} orders(-1)=1 strike()=1 orders(-1)=3 strike()=0 orders(-1)=6 {b212;b102;} orders(-1)=1 orders(0)=2 orders(2)=0",
            "{n6;b502;} orders(0)=1 {n3;} orders(0)=0 orders(-1)=6 {n2;} orders(-1)=2 {n6;} orders(-1)=720 orders(0)=0");
        s.of(13, "how many;", "22*weigh(0,1)=1 orders(-1)=6 {b212;b102;} count(1)=24 orders(-1)=1 orders(0)=2 orders(1)=1 orders(2)=0 strike()=23 orders(-1)=3");
        s.of(13, "-4 below -1.", "orders(-2)=-4 orders(MIN)=-4 orders(-1)=6 count(14)=2 {b012;b102;} orders(-2)=-4 orders(-1)=0");
        s.refused(13, "-4 below -1.", Settings.MUCH, "orders(-2)=-4 orders(MIN)=-4");
    }

    private static void next(Sentences s) {
        String told = "NEXT: two STONES (10 times the lesser, and the other), neither ABOVE the other, by which the greater of how many ORDERS have"
            + " the one ahead, and the other, is least, of several the least; that number; -9 none (somebody RINGED, too).";
        s.of(14, told,
            "next(0)=1 next(1)=3", "{n2;} next(0)=1 next(1)=1", "{n6;} next(0)=1 next(1)=360",
            "{b012;} next(0)=2 next(1)=2", "{n4;b202;} next(0)=13 next(1)=6", "{n4;b012;b232;} next(0)=2 next(1)=3",
            "{n6;b012;b122;b232;b342;b352;} next(0)=45 next(1)=1", "{n6;b542;b432;b322;b202;b212;} next(0)=1 next(1)=1");
        s.of(14, told, "23*weigh(0,1)=1 next(0)=1 {b012;} count(1)=24 next(0)=2 next(1)=2", "22*weigh(0,1)=1 {b122;b010;} next(0)=2 next(1)=1");
        s.of(14, told, "{b012;b122;} next(0)=-9 next(1)=-9", "{n2;b010;} next(0)=-9 next(1)=-9",
            "{n4;b012;b102;} open()=5 next(0)=-9 next(1)=-9", "{b012;b122;b202;} next(0)=-9 next(1)=-9 count(12)=0 count(13)=0");
        s.of(14, "NEXT: which two (what 0; -9), the number (1; -9).", "{n4;b302;} next(0)=12 next(1)=6", "{b011;b021;} next(0)=1 next(1)=3");
        s.of(14, "-2.", "next(-1)=-2 next(2)=-2 next(MIN)=-2 next(MAX)=-2 next(0)=1 next(1)=3 count(12)=4 {b012;b102;} next(2)=-2 next(-1)=-2 count(12)=6");
        s.refused(14, "-2.", Settings.MUCH, "next(-1)=-2 next(2)=-2");
        s.of(14, "-2 OTHER: what, KIND, WANTED.", "next(2)=-2 scale(6,0)=-2 plan(6)=-2 found(6,0)=-2 seeds(6,1,0)=-2 law(1,4)=-2 tells(6)=-2 worst(6)=-2"
            + " mean(6,0)=4000000000000000002 mean(0,2)=4000000000000000002 count(12)=10");
    }

    private static void liesAndOpen(Sentences s) {
        s.of(15, "LIES: WEIGHINGS of the BOOK (bits) each of which, told the other way (alike ones none), would leave nobody RINGED (if somebody is; else none).",
            "lies()=0", "{b012;b122;} lies()=0 {b202;} lies()=7 {b012;} lies()=6", "{b010;b012;} lies()=3", "{b012;b011;b102;} lies()=5",
            "{b012;b012;b102;} lies()=4", "{b012;b012;b102;b102;} lies()=0", "{n4;b012;b102;b232;b322;} ringed()=15 lies()=0",
            "{b011;b021;b121;} lies()=0",
            "22*weigh(0,1)=1 {b012;b102;} lies()=12582912", "{b012;b102;} 22*weigh(0,1)=1 count(1)=24 lies()=3",
            "{n4;b012;b122;b202;b232;} lies()=7");
        s.of(15, "LIES (bits).", "{b122;b012;b100;b102;} lies()=8");
        s.of(16, "OPEN: pairs of STONES neither of which is ABOVE the other.",
            "{n2;} open()=1 {b010;} open()=0", "{n6;} open()=15 {b012;} open()=14 {b122;} open()=12", "{b011;} open()=3",
            "{b012;b102;} open()=2 {b122;} open()=0", "{n6;b012;b122;b232;b342;b452;} open()=0", "22*weigh(0,1) {b012;b120;} open()=1");
        s.of(16, "OPEN.", "open()=3 {b012;} open()=2 {b202;} open()=0");
    }

    private static void whatIsWanted(Sentences s) {
        s.of(17, "WANTED: 0 the heaviest, 1 the lightest, 2 both, 3 the heaviest and the second, 4 the one on PLACE (n, cut by 2; from 0) of all in order, 5 all in order.",
            "{n4;b012;b022;b032;} tells(0)=1 tells(1)=0 tells(2)=0 tells(3)=0 tells(4)=0 tells(5)=0",
            "{n4;b032;b132;b232;} tells(0)=0 tells(1)=1 tells(2)=0 tells(3)=0 tells(4)=0 tells(5)=0",
            "{n4;b012;b022;b132;b232;} tells(0)=1 tells(1)=1 tells(2)=1 tells(3)=0 tells(4)=0 tells(5)=0",
            "{n4;b012;b122;b132;} tells(0)=1 tells(1)=0 tells(2)=0 tells(3)=1 tells(4)=0 tells(5)=0",
            "{n4;b022;b122;b232;} tells(0)=0 tells(1)=1 tells(2)=0 tells(3)=0 tells(4)=1 tells(5)=0",
            "{n4;b012;b122;b232;} tells(0)=1 tells(1)=1 tells(2)=1 tells(3)=1 tells(4)=1 tells(5)=1",
            "{b012;b022;} tells(0)=1 tells(1)=0 tells(2)=0 tells(3)=0 tells(4)=0 tells(5)=0",
            "{b012;b212;} tells(0)=0 tells(1)=1 tells(2)=0 tells(3)=0 tells(4)=0 tells(5)=0",
            "{b012;b122;} tells(0)=1 tells(1)=1 tells(2)=1 tells(3)=1 tells(4)=1 tells(5)=1",
            "{n2;} tells(0)=0 tells(1)=0 tells(2)=0 tells(3)=0 tells(4)=0 tells(5)=0 {b010;} tells(0)=1 tells(1)=1 tells(2)=1 tells(3)=1 tells(4)=1 tells(5)=1");
        s.of(18, "All WEIGHTS unlike, by a right SCALE, of 4 STONES at most, all ORDERS that fit:",
            "{n4;s59;} worst(5)=5 worst(0)=3 mean(5,0)=14 set(0,99) worst(5)=5 mean(5,1)=3", "{n4;s19;b011;b121;b231;} worst(5)=5 worst(0)=3 tells(0)=0",
            "{s50;w199;b012;} worst(0)=1 worst(5)=2 tells(0)=0");
        s.of(18, "all ORDERS that fit:", "22*weigh(0,1)=1 worst(5)=3 {b012;b022;} count(1)=24 tells(0)=1 worst(5)=1 mean(5,0)=1 mean(0,0)=0 mean(0,1)=1");
        askedInTurn(s);
        s.same(18, "All WEIGHTS unlike, by a right SCALE,", Settings.MUCH + " tells(0) worst(5) mean(4,1) mean(3,0)", Settings.MUCH);
    }

    /** The same object is asked of many books, so that nothing that it keeps of one may tell of another. */
    private static void askedInTurn(Sentences s) {
        s.of(18, "all ORDERS that fit:",
            "{b012;b022;} worst(0)=0 worst(1)=1 mean(1,0)=1 {n3;b102;b202;} worst(0)=1 worst(1)=0 mean(1,0)=0 {n3;b012;b212;} worst(0)=1 worst(1)=0 {n3;b102;b122;} worst(0)=0 worst(1)=1",
            "{n4;} worst(5)=5 worst(0)=3 {n3;} worst(5)=3 worst(0)=2 mean(5,0)=8 {n2;} worst(5)=1 worst(0)=1 {n3;} worst(5)=3 {n4;} worst(5)=5 worst(1)=3",
            "{n2;b102;} worst(0)=0 worst(5)=0 {n3;} worst(0)=2 worst(5)=3 {n2;} worst(0)=1 worst(5)=1 {n2;b012;} worst(0)=0 worst(5)=0 {n3;b212;b102;} worst(0)=0 worst(5)=0"
                + " {n4;} worst(0)=3 worst(5)=5 {n3;} worst(0)=2 worst(5)=3",
            "{n3;b122;b202;} worst(5)=0 {n4;b232;} worst(5)=4 worst(0)=2 {n4;b322;} worst(5)=4 worst(0)=2 {n3;} worst(5)=3 {n3;b122;} worst(5)=2 {n2;} worst(5)=1",
            "{n3;b012;b122;} worst(5)=0 {n4;} worst(5)=5 {n3;b102;b212;} worst(5)=0 {n4;b102;b202;b302;} worst(0)=2 worst(1)=0 {n4;b012;b022;b032;} worst(0)=0 worst(1)=2");
    }

    private static void tells(Sentences s) {
        s.of(17, "TELLS: whether it is told already.", "{n2;} tells(0)=0 {b011;} tells(0)=0 {b012;} tells(0)=1 {b122;}=-2000 tells(1)=1");
        s.of(17, "TELLS: 1, 0.", "tells(0)=0 {b012;b022;} tells(0)=1 tells(5)=0 {b122;} tells(5)=1");
        s.of(17, "-2;", "tells(-1)=-2 tells(6)=-2 tells(MIN)=-2 tells(MAX)=-2 tells(0)=0 tells(5)=0 count(12)=4");
        s.of(17, "-3 more than 4 STONES, somebody RINGED.", "{n4;} tells(0)=0 {n5;} tells(0)=-3 {n6;} tells(5)=-3 {n4;} tells(5)=0 count(13)=2",
            "{b012;b102;} tells(0)=-3 strike()=1 tells(0)=0", "{n4;b232;b322;} tells(0)=-3 tells(2)=-3", "{n5;b012;b122;b232;b342;} tells(0)=-3");
        s.of(17, "-2; -3", "{n5;} tells(6)=-2 tells(-1)=-2 {n3;b012;b102;} tells(6)=-2 count(12)=3 count(13)=0");
        s.refused(17, "-2; -3 more than 4 STONES,", Settings.FIVE, "tells(6)=-2 tells(-1)=-2 tells(0)=-3 tells(5)=-3");
        s.refused(17, "somebody RINGED.", Settings.RING, "tells(6)=-2 tells(0)=-3");
    }

    private static void worst(Sentences s) {
        s.of(18, "WORST: the fewest WEIGHINGS by which what is WANTED is told at worst (each by what was told ahead);",
            "{n2;} worst(0)=1 worst(1)=1 worst(2)=1 worst(3)=1 worst(4)=1 worst(5)=1",
            "worst(0)=2 worst(1)=2 worst(2)=3 worst(3)=3 worst(4)=3 worst(5)=3",
            "{n4;} worst(0)=3 worst(1)=3 worst(2)=4 worst(3)=4 worst(4)=4 worst(5)=5",
            "{b012;} worst(0)=1 worst(1)=1 worst(2)=2 worst(5)=2 {b122;} worst(0)=0 worst(1)=0 worst(2)=0 worst(3)=0 worst(4)=0 worst(5)=0",
            "{n4;b012;b232;} worst(0)=1 worst(1)=1 worst(2)=2 worst(3)=2 worst(5)=3 {b022;} worst(0)=0 worst(3)=1 worst(1)=1 worst(2)=1",
            "{n4;b012;b022;b032;b132;b232;} worst(2)=0 worst(4)=1 worst(5)=1");
        s.of(18, "WORST.", "worst(2)=3 {b012;} worst(2)=2 {b202;} worst(2)=0");
        s.of(18, "-2;", "worst(-1)=-2 worst(6)=-2 worst(MIN)=-2 worst(MAX)=-2 worst(0)=2 worst(5)=3 count(12)=4");
        s.of(18, "-3 likewise.", "{n4;} worst(0)=3 {n5;} worst(0)=-3 {n6;} worst(5)=-3 {n3;b012;b102;} worst(0)=-3 strike()=1 worst(0)=1 count(13)=3",
            "{n5;b012;b122;b232;b342;} worst(5)=-3");
        s.of(18, "-2; -3 likewise.", "{n5;} worst(6)=-2 worst(-1)=-2 {n3;b012;b102;} worst(6)=-2 count(12)=3 count(13)=0");
        s.refused(18, "-2; -3 likewise.", Settings.FIVE, "worst(6)=-2 worst(-1)=-2 worst(0)=-3");
        s.refused(18, "-3 likewise.", Settings.RING, "worst(-1)=-2 worst(5)=-3");
    }

    private static void mean(Sentences s) {
        s.of(19, "MEAN: the least, over all ORDERS alike likely, in the mean: a fraction in least terms (nobody RINGED).",
            "{n2;} mean(0,0)=1 mean(0,1)=1 mean(5,0)=1 mean(5,1)=1 {b012;} mean(5,0)=0 mean(5,1)=1",
            "mean(0,0)=2 mean(0,1)=1 mean(1,0)=2 mean(1,1)=1 mean(2,0)=8 mean(2,1)=3 mean(5,0)=8 mean(5,1)=3",
            "{n4;} mean(0,0)=3 mean(0,1)=1 mean(2,0)=4 mean(2,1)=1 mean(5,0)=14 mean(5,1)=3",
            "{b012;} mean(5,0)=5 mean(5,1)=3 mean(0,0)=1 mean(0,1)=1", "{b012;b022;} mean(5,0)=1 mean(5,1)=1 mean(0,0)=0 mean(0,1)=1",
            "{n4;b012;b232;} mean(5,0)=8 mean(5,1)=3");
        s.of(19, "MEAN, part 0 above, 1 below the line.", "mean(5,0)=8 mean(5,1)=3 {b012;b122;} mean(5,0)=0 mean(5,1)=1");
        s.of(19, "Refused as told: -2 either;", "mean(-1,0)=4000000000000000002 mean(6,0)=4000000000000000002 mean(0,-1)=4000000000000000002 mean(0,2)=4000000000000000002"
            + " mean(MIN,0)=4000000000000000002 mean(0,MAX)=4000000000000000002 mean(6,2)=4000000000000000002 mean(0,0)=2 mean(5,1)=3 count(12)=7");
        s.of(19, "-3 likewise.", "{n5;} mean(0,0)=4000000000000000003 mean(5,1)=4000000000000000003 {n4;} mean(0,0)=3"
            + " {n3;b012;b102;} mean(0,1)=4000000000000000003 strike()=1 mean(0,1)=1 count(13)=3");
        s.of(19, "-2 either; -3 likewise.", "{n6;} mean(6,0)=4000000000000000002 mean(0,2)=4000000000000000002"
            + " {n3;b012;b102;} mean(-1,0)=4000000000000000002 mean(0,-1)=4000000000000000002 count(12)=4 count(13)=0");
        s.of(19, "Of longs 4000000000000000000 less them (-1 as 4000000000000000001).", "mean(9,0)=4000000000000000002 {n5;} mean(0,0)=4000000000000000003");
        s.refused(19, "-2 either; -3 likewise.", Settings.FIVE, "mean(6,0)=4000000000000000002 mean(0,2)=4000000000000000002 mean(0,0)=4000000000000000003");
        s.refused(19, "-3 likewise.", Settings.RING, "mean(0,0)=4000000000000000003 mean(0,2)=4000000000000000002");
    }
}
