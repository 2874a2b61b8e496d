/** Promises 1, 2 and 4 to 10: stones, letters that come, scales, the book. */
final class ScaleAndBook {
    private static final String FULL_BOOK = "24*weigh(0,1)";

    static void all(Sentences s) {
        aNewObject(s);
        lettersThatCome(s);
        weights(s);
        scales(s);
        whatScalesTell(s);
        howScalesTire(s);
        weighings(s);
        book(s);
        strike(s);
    }

    private static void aNewObject(Sentences s) {
        s.of(1, "Three STONES alike.",
            "count(0)=3 weight(0)=10 weight(1)=10 weight(2)=10 weight(3)=-1 would(0,1)=1 would(1,2)=1 would(2,0)=1");
        s.of(1, "STONES 0 .. 5 (2 .. 6 of them; 3 at first)",
            "count(0)=3 weight(0)=10 weight(-1)=-1 weight(2)=10 weight(3)=-1",
            "{n2;} count(0)=2 weight(1)=10 weight(2)=-1",
            "{n6;} count(0)=6 weight(5)=10 weight(6)=-1",
            "{n1;}=-2000 {n0;}=-2000 count(0)=3",
            "{n7;}=-2000 {n9;}=-2000 count(0)=3");
        s.of(1, "with WEIGHTS (1 .. 99; 10 each at first).",
            "weight(0)=10 weight(1)=10 weight(2)=10 count(4)=30",
            "set(0,1)=10 set(0,0)=-4 weight(0)=1 set(2,99)=10 set(2,100)=-6 weight(2)=99 count(4)=110",
            "{w01;} {w00;}=-2000 {w000;}=-2000 weight(0)=1 {w299;} {w2100;}=-1004 weight(2)=99");
        s.of(1, "(0 and 0 at first).", "scale(4,7)=0 scale(0,0)=47", "set(0,11) would(0,1)=2 would(1,0)=0");
        s.of(1, "none at first)", "count(1)=0 book(0)=-1 strike()=-3 above(0)=0 ringed()=0 orders(-1)=6 lies()=0 open()=3");
        s.of(1, "Three STONES", "count(2)=0 count(3)=0 count(5)=0 count(6)=0 restore()=-3 count(11)=0 count(12)=0 count(14)=0 count(16)=0");
    }

    private static void lettersThatCome(Sentences s) {
        s.of(2, "A letter comes: how many there are.",
            "count(5)=0 feed(110)=1 count(5)=1 feed(50)=2 feed(59)=3 count(5)=3 barn()=1 count(5)=0 feed(0)=1");
        s.of(2, "-4; -6 (255; 96, too).",
            "feed(-1)=-4 feed(MIN)=-4 feed(0)=1 feed(255)=2 feed(256)=-6 feed(MAX)=-6 count(5)=2 count(14)=2 count(16)=2",
            "feed(59)=1..95 feed(59)=96 feed(59)=-6 count(5)=96 barn()=-1000 count(5)=0 feed(59)=1",
            "96*feed(0) feed(0)=-6 feed(255)=-6 feed(256)=-6 feed(-1)=-4 count(16)=3 count(14)=1");
        s.refused(2, "-4; -6 (255; 96, too).", Settings.MUCH, "feed(-1)=-4 feed(256)=-6 feed(MAX)=-6");
        s.refused(2, "96, too", "96*feed(59)", "feed(59)=-6 feed(-1)=-4 feed(256)=-6");
        s.of(2, "REFUSALS (the call answers the number, the first that fits in the order in which it tells them;",
            "96*feed(59) feed(-1)=-4 count(14)=1 count(16)=0");
    }

    private static void weights(Sentences s) {
        s.of(4, "WEIGHT.", "weight(0)=10 set(1,7)=10 set(2,99)=10 weight(0)=10 weight(1)=7 weight(2)=99",
            "{n6;w51;} weight(5)=1 weight(4)=10");
        s.of(4, "-1.", "weight(0)=10 weight(-1)=-1 weight(MIN)=-1 weight(2)=10 weight(3)=-1 weight(MAX)=-1 count(11)=4",
            "{n6;} weight(5)=10 weight(6)=-1", "{n2;} weight(1)=10 weight(2)=-1");
        s.refused(4, "-1.", Settings.MUCH, "weight(-1)=-1 weight(4)=-1");
        s.of(5, "WEIGHT becomes v: what it was.",
            "set(1,7)=10 set(1,7)=7 set(1,99)=7 set(1,1)=99 weight(1)=1 weight(0)=10 weight(2)=10 would(0,1)=2 count(4)=21");
        s.of(5, "-1;", "set(-1,50)=-1 set(3,50)=-1 set(MIN,50)=-1 set(MAX,50)=-1 set(0,50)=10 set(2,50)=10 count(11)=4");
        s.of(5, "-4 below 1;", "set(0,0)=-4 set(0,-1)=-4 set(0,MIN)=-4 weight(0)=10 set(0,1)=10 weight(0)=1 count(14)=3");
        s.of(5, "-6 99.", "set(0,100)=-6 set(0,MAX)=-6 weight(0)=10 set(0,99)=10 weight(0)=99 count(16)=2");
        s.of(5, "the first that fits in the order in which it tells them;",
            "set(3,0)=-1 set(3,100)=-1 set(-1,MIN)=-1 set(-1,MAX)=-1 count(11)=4 count(14)=0 count(16)=0");
        s.refused(5, "-1; -4 below 1; -6 99.", Settings.MUCH, "set(4,5)=-1 set(-1,0)=-1 set(0,0)=-4 set(0,100)=-6");
    }

    private static void scales(Sentences s) {
        s.of(6, "A SCALE of KINDS: 0 SCALE; 1 COARSE under SCALE; 2 WRONG under SCALE; 3 SIGNLESS under COARSE;"
            + " 4 TIRED under COARSE; 5 TURNED under WRONG:",
            "scale(0,0)=0 scale(1,0)=0 scale(2,0)=10 scale(3,0)=20 scale(4,0)=30 scale(5,0)=40 scale(6,0)=-2 scale(-1,0)=-2 scale(0,0)=50",
            "{s50;} {s60;}=-2000 scale(0,0)=50",
            "{w013;} scale(0,3) would(1,0)=0 scale(1,3) would(1,0)=1 scale(2,3) would(1,0)=0 scale(3,2) would(1,0)=2"
            + " scale(4,2) would(1,0)=0 scale(5,3) would(1,0)=2");
        s.of(6, "with a FIGURE (0 .. 9)", "scale(1,0)=0 scale(1,9)=10 scale(1,10)=-6 scale(1,-1)=-4 scale(1,0)=19",
            "{s19;} {s190;}=-1003 scale(0,0)=19");
        s.of(6, "The SCALE: 10 times the KIND and the FIGURE it was.", "scale(5,9)=0 scale(3,4)=59 scale(3,4)=34 scale(0,9)=34 scale(0,0)=9 scale(0,0)=0");
        s.of(6, "-2;", "scale(6,0)=-2 scale(MAX,0)=-2 scale(-1,0)=-2 scale(MIN,0)=-2 scale(5,0)=0 scale(0,0)=50 count(12)=4");
        s.of(6, "-4;", "scale(0,-1)=-4 scale(5,MIN)=-4 scale(5,0)=0 scale(0,0)=50 count(14)=2");
        s.of(6, "-6 9.", "scale(0,10)=-6 scale(5,MAX)=-6 scale(5,9)=0 scale(0,0)=59 count(16)=2");
        s.of(6, "-2; -4; -6 9.", "scale(6,-1)=-2 scale(6,10)=-2 scale(-1,-1)=-2 scale(-1,10)=-2 count(12)=4 count(14)=0 count(16)=0");
        s.refused(6, "-2; -4; -6 9.", Settings.MUCH, "scale(6,0)=-2 scale(-1,-1)=-2 scale(6,10)=-2 scale(0,-1)=-4 scale(0,10)=-6");
        s.same(6, "The SCALE:", Settings.MUCH + " scale(5,9) scale(3,3)", Settings.MUCH + " scale(3,3)");
    }

    private static void whatScalesTell(Sentences s) {
        s.of(7, "What a SCALE tells of a, b at the n-th WEIGHING (n 0 .. : how many are in the BOOK): SCALE by WEIGHTS.",
            "set(0,11) would(0,1)=2 would(1,0)=0 would(1,2)=1 would(2,1)=1 scale(0,9) would(0,1)=2 would(1,0)=0 would(2,1)=1",
            "set(0,99) set(1,98) set(2,1) would(0,1)=2 would(1,0)=0 would(2,0)=0 would(0,2)=2",
            "set(0,11) scale(2,0) would(0,1)=2 would(0,1)=2 {b211;} would(0,1)=0 would(0,1)=0 strike()=0 would(0,1)=2 weigh(1,2)=1 would(0,1)=0");
        s.of(7, "COARSE as a SCALE, but 1, if they differ by FIGURE or less.",
            "{s13;w013;} would(0,1)=1 would(1,0)=1 {w014;} would(0,1)=2 would(1,0)=0 would(1,2)=1",
            "{s10;w011;} would(0,1)=2 would(1,0)=0 would(1,2)=1",
            "{s19;w019;} would(0,1)=1 would(1,0)=1 {w020;} would(0,1)=2 would(1,0)=0",
            "{s13;w013;b012;b012;b012;b012;b012;b012;b012;} would(0,1)=1 {w014;} would(0,1)=2");
        s.of(7, "WRONG as a SCALE, but the other way (2 for 0, 0 for 2), if n and 1 is a multiple of FIGURE plus 2.",
            "{s20;w011;} weigh(0,1)=2 weigh(0,1)=0 weigh(1,0)=0 weigh(1,0)=2 weigh(1,2)=1 weigh(1,2)=1 would(0,1)=2",
            "{s21;w011;} weigh(0,1)=2 weigh(0,1)=2 weigh(0,1)=0 weigh(0,1)=2 weigh(0,1)=2 weigh(1,0)=2 weigh(1,0)=0",
            "{s29;w011;} 10*weigh(0,1)=2 weigh(0,1)=0 10*weigh(0,1)=2 would(1,0)=2 weigh(0,1)=0 2*weigh(0,1)=2 would(0,1)=2",
            "{s20;w011;b121;} would(0,1)=0 would(1,0)=2 would(1,2)=1 would(2,1)=1",
            "{s23;w011;} 24*weigh(1,2)=1 would(0,1)=0 would(1,0)=2 strike()=23 would(0,1)=2");
        s.of(7, "SIGNLESS as a COARSE, but 2 for 0.",
            "{s33;w013;} would(0,1)=1 would(1,0)=1 {w014;} would(0,1)=2 would(1,0)=2 would(1,2)=1",
            "{s30;w011;} would(0,1)=2 would(1,0)=2 would(1,2)=1",
            "{s39;w019;} would(1,0)=1 {w020;} would(1,0)=2 would(0,1)=2");
        s.of(7, "TURNED what a WRONG does the other way.",
            "{s50;w011;} weigh(0,1)=0 weigh(0,1)=2 weigh(1,0)=2 weigh(1,0)=0 weigh(1,2)=1 weigh(1,2)=1 would(0,1)=0",
            "{s59;w011;} 10*weigh(0,1)=0 weigh(0,1)=2 10*weigh(0,1)=0 would(1,0)=0 weigh(0,1)=2 2*weigh(0,1)=0 would(0,1)=0",
            "{s51;w011;} would(1,0)=2 would(1,2)=1");
        s.of(7, "What the SCALE would tell now.", "set(0,11) would(0,1)=2 count(1)=0 set(0,9) would(0,1)=0 set(0,10) would(0,1)=1 would(1,0)=1",
            FULL_BOOK + " set(0,11) would(0,1)=2 would(1,0)=0 count(1)=24");
        s.same(7, "What the SCALE would tell now.", Settings.MUCH + " would(0,1) would(3,2)", Settings.MUCH);
        s.of(7, "-1 two.", "would(0,0)=-1 would(2,2)=-1 would(0,3)=-1 would(3,0)=-1 would(-1,0)=-1 would(0,-1)=-1 would(MIN,MAX)=-1 would(3,3)=-1"
            + " would(2,1)=1 would(0,2)=1 count(11)=8", FULL_BOOK + " would(0,0)=-1");
        s.refused(7, "-1 two.", Settings.MUCH, "would(0,0)=-1 would(0,4)=-1 would(-1,0)=-1");
    }

    private static void howScalesTire(Sentences s) {
        s.of(7, "TIRED as a SCALE, but 1, if they differ by no more than FIGURE and a fifth of n, cut.",
            "{s40;w011;} 5*weigh(0,1)=2 weigh(0,1)=1 would(1,0)=1",
            "{s40;w011;} would(1,0)=0 would(1,2)=1 5*weigh(1,0)=0 would(1,0)=1",
            "{s42;w012;} would(0,1)=1 {w013;} 5*weigh(0,1)=2 weigh(0,1)=1 {w014;} 4*weigh(0,1)=2 weigh(0,1)=1",
            "{s49;w023;w132;} 19*weigh(0,2)=2 would(0,2)=2 weigh(1,2)=2 would(0,2)=1 3*weigh(0,2)=1 would(0,2)=1 would(1,2)=2",
            "{s40;w014;w115;} 19*weigh(0,2)=2 would(0,2)=2 weigh(0,2)=2 would(0,2)=1 would(2,0)=1 would(2,1)=0 4*weigh(0,2)=1 would(0,2)=1 would(1,2)=2");
    }

    private static void weighings(Sentences s) {
        s.of(8, "To WEIGH: what is told.", "set(0,11) weigh(0,1)=2 weigh(1,0)=0 weigh(1,2)=1 count(1)=3",
            "{s13;w013;} weigh(0,1)=1 book(0)=11", "{s30;w011;} weigh(1,0)=2 book(0)=102", "{s50;w011;} weigh(0,1)=0 book(0)=10 weigh(0,1)=2 book(1)=12");
        s.of(8, "To WEIGH: what is told comes into the BOOK.",
            "set(0,11) weigh(0,1)=2 count(1)=1 book(0)=12 weigh(2,0)=0 count(1)=2 book(1)=200 above(0)=6",
            "{s30;w011;} weigh(1,0)=2 above(1)=1 above(0)=0");
        s.same(8, "To WEIGH: what is told comes into the BOOK.", Settings.MUCH + " weigh(2,1)", Settings.MUCH_PLUS_ONE_WEIGHING);
        s.of(8, "A BOOK of WEIGHINGS (24 at most;", "23*weigh(0,1)=1 count(1)=23 weigh(1,2)=1 count(1)=24 weigh(0,1)=-6 count(1)=24 book(23)=121 book(24)=-1",
            "[" + "b010;".repeat(19) + "] barn()=19 [" + "b010;".repeat(5) + "] barn()=5 count(1)=24 {b010;}=-2000 weigh(0,1)=-6",
            "23*weigh(0,1)=1 {b010;b010;}=-2005 count(1)=23 {b010;} count(1)=24");
        s.of(8, "-1 two;", "weigh(0,0)=-1 weigh(0,3)=-1 weigh(3,0)=-1 weigh(-1,0)=-1 weigh(0,-1)=-1 weigh(MAX,MIN)=-1 weigh(3,3)=-1 count(1)=0"
            + " weigh(0,2)=1 weigh(2,0)=1 count(1)=2 count(11)=7", "{n2;} weigh(1,0)=1 weigh(1,2)=-1", "{n6;} weigh(5,4)=1 weigh(5,6)=-1");
        s.of(8, "-6 24.", "weigh(0,1)=1 23*weigh(0,1)=1 weigh(0,1)=-6 weigh(1,2)=-6 count(16)=2 strike()=23 weigh(0,1)=1 weigh(0,1)=-6");
        s.of(8, "-1 two; -6 24.", FULL_BOOK + " weigh(1,1)=-1 weigh(0,3)=-1 weigh(-1,0)=-1 count(11)=3 count(16)=0");
        s.refused(8, "-1 two; -6 24.", Settings.MUCH, "weigh(0,0)=-1 weigh(0,4)=-1 weigh(-1,0)=-1");
        s.refused(8, "-6 24.", FULL_BOOK, "weigh(0,1)=-6 weigh(1,1)=-1");
    }

    private static void book(Sentences s) {
        s.of(9, "each of two STONES a, b, and what was told: 2 a is heavier, 1 they are alike, 0 b is heavier.",
            "set(0,11) weigh(0,1)=2 weigh(1,0)=0 weigh(1,2)=1 above(0)=2 above(1)=0 above(2)=0");
        s.of(9, "The i-th WEIGHING: 100 a, 10 b, and what was told.",
            "set(0,11) weigh(0,1)=2 weigh(1,0)=0 weigh(2,1)=1 book(0)=12 book(1)=100 book(2)=211",
            "{n6;b542;b450;b541;} book(0)=542 book(1)=450 book(2)=541");
        s.of(9, "-1.", "book(0)=-1 book(-1)=-1 book(MIN)=-1 book(MAX)=-1 weigh(1,0) book(-1)=-1 book(0)=101 book(1)=-1 count(11)=6",
            FULL_BOOK + " book(0)=11 book(23)=11 book(24)=-1 book(-1)=-1", "weigh(1,0) strike()=0 book(0)=-1");
        s.refused(9, "-1.", Settings.MUCH, "book(-1)=-1 book(99)=-1");
        s.of(9, "-1 NOBODY: no such STONE, PLACE, WEIGHING, one twice.",
            "weight(3)=-1 through(3)=-1 compare(0,3)=-1 book(0)=-1 weigh(1,1)=-1 like(2,2)=-1 would(0,0)=-1 count(11)=7");
    }

    private static void strike(Sentences s) {
        s.of(10, "The last WEIGHING is no more: how many are left.",
            "{b012;b120;} strike()=1 count(1)=1 book(0)=12 book(1)=-1 above(0)=2 above(2)=0 strike()=0 count(1)=0 above(0)=0",
            FULL_BOOK + " strike()=23..0 strike()=-3", "{s20;w011;} weigh(1,2)=1 would(0,1)=0 strike()=0 would(0,1)=2");
        s.same(10, "The last WEIGHING is no more:", Settings.MUCH + " weigh(0,1) strike()", Settings.MUCH);
        s.of(10, "-3 there is none.", "strike()=-3 count(13)=1 weigh(0,1) strike()=0 strike()=-3 count(13)=2 count(1)=0",
            "{b012;} {n3;} strike()=-3");
        s.refused(10, "-3 there is none.", Settings.MUCH_WITHOUT_BOOK, "strike()=-3");
        s.of(10, "-3 STATE: it is not as told.", "strike()=-3 restore()=-3 {n5;} tells(0)=-3 worst(0)=-3 mean(0,0)=4000000000000000003 count(13)=5");
    }
}
