/** Promises 33 to 39: bounds by law, the row, seeds, the image, what there is. */
final class LawRowSeedsImage {
    private static final String FULL_ROW = "12*row(0)";

    static void all(Sentences s) {
        law(s);
        row(s);
        judge(s);
        judgeByKinds(s);
        seeds(s);
        image(s);
        restore(s);
        count(s);
        refusals(s);
    }

    private static void law(Sentences s) {
        s.of(33, "BY LAW of n (1 .. 20):", "law(0,0)=-4 law(1,0)=0 law(20,0)=28 law(21,0)=-6");
        s.of(33, "what 0 both ends: 3 n by 2, rounded up, less 2 (0 for 1);",
            "law(1,0)=0 law(2,0)=1 law(3,0)=3 law(4,0)=4 law(5,0)=6 law(6,0)=7 law(7,0)=9 law(19,0)=27 law(20,0)=28");
        s.of(33, "1 the second: n less 2 plus how often n must be halved (rounded up each time) till it is 1 (0 for 1);",
            "law(1,1)=0 law(2,1)=1 law(3,1)=3 law(4,1)=4 law(5,1)=6 law(6,1)=7 law(8,1)=9 law(9,1)=11 law(16,1)=18 law(17,1)=20 law(20,1)=23");
        s.of(33, "2 all by INSERT: the sum over k of 2 .. n of how often k must be halved (rounded up) till it is 1;",
            "law(1,2)=0 law(2,2)=1 law(3,2)=3 law(4,2)=5 law(5,2)=8 law(8,2)=17 law(9,2)=21 law(16,2)=49 law(17,2)=54 law(20,2)=69");
        s.of(33, "3 what orders let: the least m for which 2 to m is no less than how many orders of n there are.",
            "law(1,3)=0 law(2,3)=1 law(3,3)=3 law(4,3)=5 law(5,3)=7 law(6,3)=10 law(12,3)=29 law(13,3)=33 law(19,3)=57 law(20,3)=62");
        s.of(33, "BY LAW.", "{n5;w099;b012;} law(5,0)=6 law(5,1)=6 law(5,2)=8 law(5,3)=7");
        s.of(33, "-4;", "law(0,0)=-4 law(-1,3)=-4 law(MIN,1)=-4 law(1,3)=0 count(14)=3");
        s.of(33, "-6 20;", "law(21,0)=-6 law(MAX,3)=-6 law(20,3)=62 count(16)=2");
        s.of(33, "-2.", "law(1,-1)=-2 law(20,4)=-2 law(5,MIN)=-2 law(5,MAX)=-2 law(5,0)=6 law(5,3)=7 count(12)=4");
        s.of(33, "-4; -6 20; -2.", "law(0,4)=-4 law(0,-1)=-4 law(21,4)=-6 law(21,-1)=-6 count(14)=2 count(16)=2 count(12)=0");
        s.refused(33, "-4; -6 20; -2.", Settings.MUCH, "law(0,0)=-4 law(21,4)=-6 law(1,4)=-2 law(1,-1)=-2");
        s.same(33, "BY LAW.", Settings.MUCH + " law(20,0) law(20,1) law(20,2) law(20,3)", Settings.MUCH);
    }

    private static void row(Sentences s) {
        s.of(34, "A ROW of numbers (0 .. 9; 12 at most):", "row(0)=1 row(9)=2 row(10)=-6 row(-1)=-4 count(6)=2", "row(0)=1..12 row(0)=-6 count(6)=12");
        s.of(34, "A number more of the ROW: how many.", "count(6)=0 row(5)=1 row(5)=2 count(6)=2 judge()=0 row(1)=1 count(6)=1");
        s.of(34, "-4;", "row(-1)=-4 row(MIN)=-4 row(0)=1 count(14)=2 count(6)=1");
        s.of(34, "-6 (9; 12, too).", "row(10)=-6 row(MAX)=-6 row(9)=1 count(16)=2 count(6)=1", "row(9)=1..11 row(9)=12 row(9)=-6 row(0)=-6 row(10)=-6 count(16)=3 judge()=0 row(0)=1");
        s.of(34, "-4; -6 (9; 12, too).", FULL_ROW + " row(-1)=-4 row(MIN)=-4 count(14)=2 count(16)=0");
        s.refused(34, "-4; -6 (9; 12, too).", Settings.MUCH, "row(-1)=-4 row(10)=-6");
        s.refused(34, "12, too).", Settings.MUCH + " row(0) row(1) row(2) row(3) row(2) row(2)", "row(0)=-6 row(-1)=-4 row(10)=-6");
    }

    private static void judge(Sentences s) {
        s.of(35, "by threes a, b, what is told: JUDGED, as the SCALE would tell them one behind the other from now on: the place of the first number that is not so"
            + " (no such STONE, one twice: its place);",
            "row(0) row(1) row(1) judge()=-9", "row(0) row(1) row(0) judge()=2", "row(0) row(1) row(2) judge()=2", "row(0) row(1) row(3) judge()=2", "row(0) row(1) row(9) judge()=2",
            "row(3) row(1) row(1) judge()=0", "row(9) row(9) row(9) judge()=0", "row(0) row(3) row(1) judge()=1", "row(0) row(0) row(1) judge()=1", "row(2) row(2) row(9) judge()=1",
            "row(2) row(1) row(1) judge()=-9 {n2;} row(2) row(1) row(1) judge()=0", "{n6;} row(5) row(4) row(1) judge()=-9 row(5) row(6) row(1) judge()=1",
            "{w012;} row(0) row(1) row(2) row(1) row(0) row(0) row(1) row(2) row(1) row(2) row(0) row(0) judge()=-9",
            "{w012;} row(0) row(1) row(2) row(1) row(0) row(0) row(1) row(2) row(1) row(2) row(0) row(2) judge()=11",
            "{w012;} row(0) row(1) row(2) row(1) row(0) row(2) row(1) row(1) row(1) judge()=5", "{w012;} row(0) row(1) row(2) row(1) row(3) row(2) judge()=4",
            "{w012;} row(0) row(1) row(2) row(3) row(3) row(2) judge()=3");
        s.of(35, "where the last three would begin, if they are not whole; -9.",
            "row(0) judge()=0", "row(0) row(1) judge()=0", "row(0) row(0) judge()=0", "row(9) row(9) judge()=0", "row(9) judge()=0",
            "row(0) row(1) row(1) row(2) row(2) judge()=3", "row(0) row(1) row(1) row(0) judge()=3", "row(0) row(1) row(1) row(0) row(1) judge()=3", "judge()=-9",
            "row(0) row(1) row(0) row(0) judge()=2", "row(0) row(0) row(0) row(0) row(1) judge()=1",
            "row(0) row(1) row(1) row(0) row(1) row(1) row(0) row(1) row(1) row(0) judge()=9", "row(0) row(1) row(1) row(0) row(1) row(1) row(0) row(1) row(1) row(0) row(2) judge()=9");
        s.of(35, "JUDGED; -9 (whichever it answers, the ROW has none then).",
            "row(0) judge()=0 count(6)=0 judge()=-9", "row(0) row(1) row(1) judge()=-9 count(6)=0 judge()=-9", "row(3) row(1) row(1) judge()=0 count(6)=0 judge()=-9 row(0)=1",
            "row(0) row(1) row(0) judge()=2 count(6)=0 judge()=-9", FULL_ROW + " judge()=1 count(6)=0 row(9)=1", "judge()=-9 count(6)=0 count(11)=0 count(13)=0");
        s.same(35, "the ROW has none then", Settings.MUCH + " judge()", Settings.MUCH_WITHOUT_ROW);
    }

    private static void judgeByKinds(Sentences s) {
        s.of(35, "JUDGED, as the SCALE would tell them one behind the other from now on:",
            "{s20;w011;} row(0) row(1) row(2) row(0) row(1) row(0) row(0) row(1) row(2) judge()=-9 count(1)=0", "{s20;w011;} row(0) row(1) row(2) row(0) row(1) row(2) judge()=5",
            "{s20;w011;b121;} row(0) row(1) row(0) row(0) row(1) row(2) judge()=-9 count(1)=1", "{s20;w011;b121;} row(0) row(1) row(2) judge()=2",
            "{s50;w011;} row(0) row(1) row(0) row(0) row(1) row(2) judge()=-9", "{s30;w011;} row(1) row(0) row(2) row(1) row(0) row(0) judge()=5",
            "{s11;w011;} row(0) row(1) row(1) judge()=-9", "{s40;w011;} 4*weigh(0,1)=2 row(0) row(1) row(2) row(0) row(1) row(1) judge()=-9 would(0,1)=2",
            "{s23;w011;} 24*weigh(1,2)=1 row(0) row(1) row(0) judge()=-9 row(0) row(1) row(2) judge()=2 count(1)=24",
            "{s29;w011;} 9*weigh(0,1) row(0) row(1) row(2) row(0) row(1) row(0) row(0) row(1) row(2) row(1) row(0) row(0) judge()=-9");
    }

    /** As the document tells it, by longs: z modulo 2 to 32, its sign's bit the highest. */
    private static int drawn(long[] z, int below) {
        z[0] = Math.floorMod(z[0] * 1103515245L + 12345L, 1L << 32);
        return (int) (z[0] % (1L << 31) / 65536 % below);
    }

    private static void seeds(Sentences s) {
        s.test(36, "SEEDS with a seed z: n times (1 .. 20) WEIGHTS of all STONES by numbers are DRAWS below 99, and 1: how often a PLAN weighs then, together."
            + " DRAWS: z becomes z times 1103515245 plus 12345 (an int, wrapping); a DRAW below n is (z without its sign's bit, over 65536, cut) modulo n.", x -> {
                for (int z : new int[] {0, 1, -1, 2026, -1234567, Integer.MIN_VALUE, Integer.MAX_VALUE}) {
                    for (int kind = 0; kind < 6; kind++) {
                        seedsOne(s, 2 + Math.floorMod(z + kind, 5), kind, z, 1 + 19 * (kind % 2));
                    }
                }
            });
        s.of(36, "SEEDS.", "seeds(4,5,1)=14 seeds(0,1,0)=3 seeds(0,20,0)=60 seeds(1,7,-9)=21", "{n6;} seeds(0,1,5)=9 seeds(0,20,5)=180 seeds(1,20,5)=140", "{n2;} seeds(5,20,MIN)=20 seeds(3,20,MAX)=20");
        s.of(36, "-2;", "seeds(-1,5,1)=-2 seeds(6,5,1)=-2 seeds(MIN,5,1)=-2 seeds(MAX,5,1)=-2 seeds(0,5,1)=15 seeds(5,1,1) count(12)=4");
        s.of(36, "-4;", "seeds(0,0,1)=-4 seeds(0,-1,1)=-4 seeds(5,MIN,1)=-4 seeds(0,1,1)=3 count(14)=3");
        s.of(36, "-6 20.", "seeds(0,21,1)=-6 seeds(5,MAX,1)=-6 seeds(0,20,1)=60 count(16)=2");
        s.of(36, "-2; -4; -6 20.", "seeds(6,0,1)=-2 seeds(6,21,1)=-2 seeds(-1,0,0)=-2 seeds(-1,21,0)=-2 count(12)=4 count(14)=0 count(16)=0");
        s.refused(36, "-2; -4; -6 20.", Settings.MUCH, "seeds(6,0,1)=-2 seeds(-1,5,1)=-2 seeds(0,0,1)=-4 seeds(0,21,1)=-6");
    }

    private static void seedsOne(Sentences s, int stones, int kind, int seed, int times) {
        Calls x = new Calls(s);
        x.carryOut("{n" + stones + ";}");
        long answer = x.answer("seeds", kind, times, seed);
        long due = 0;
        long[] z = {seed};
        for (int t = 0; t < times; t++) {
            for (int stone = 0; stone < stones; stone++) {
                x.answer("set", stone, drawn(z, 99) + 1);
            }
            due += x.answer("plan", kind);
        }
        x.due("seeds(" + kind + "," + times + "," + seed + ") of " + stones, answer, due);
    }

    private static void image(Sentences s) {
        s.of(37, "THE IMAGE: all that there is, but it, letters, the ROW, REFUSALS.",
            "{n5;w099;s42;b012;b341;l01;l43;c01;c34;} image()=2 {n2;s11;w05;b100;l10;c01;} restore()=2 count(0)=5 count(1)=2 count(2)=2 count(3)=2 count(4)=139 scale(0,0)=42"
            + " book(0)=12 book(1)=341 like(0,1)=2 like(4,3)=2 rounds()=1 weight(0)=99 through(0)=0",
            "image()=0 feed(110) feed(52) row(3) row(4) weight(9)=-1 restore()=0 count(5)=2 count(6)=2 count(11)=1 feed(59)=3 barn()=1 count(0)=4",
            "feed(110) row(3) weight(9)=-1 image()=0 {2;}=1 judge()=0 restore()=0 count(5)=0 count(6)=0 count(11)=1 count(0)=3",
            "{w099;} image()=0 {n6;w01;} restore()=0 count(0)=3 weight(0)=99 restore()=0 restore()=0");
        s.of(37, "THE IMAGE is taken: how many WEIGHINGS.", "image()=0 weigh(0,1) image()=1 23*weigh(0,1) image()=24 count(1)=24", "{b010;} image()=1 strike()=0 image()=0 weigh(0,1) restore()=0");
        s.same(37, "THE IMAGE is taken:", Settings.MUCH + " image()=3 image()=3", Settings.MUCH + " image()=3");
        s.same(37, "THE IMAGE is taken:", Settings.MUCH + " set(0,9) image()=3 set(0,44) restore()=3", Settings.MUCH + " set(0,9) image()=3");
    }

    private static void restore(Sentences s) {
        s.of(38, "It is RESTORED: how many WEIGHINGS.", "image()=0 weigh(0,1) restore()=0 count(1)=0 weigh(0,1)=1 restore()=0", "24*weigh(0,1) image()=24 {n2;} restore()=24 count(1)=24 book(23)=11 weigh(0,1)=-6",
            "{b012;} image()=1 strike()=0 weigh(2,1) weigh(2,0) restore()=1 book(0)=12 book(1)=-1", "{c01;c12;} image()=0 clear()=2 compare(0,2)=1 restore()=0 count(2)=2 gap()=1",
            "like(0,1) image()=0 like(1,0) like(2,1) restore()=0 count(3)=1 like(0,1)=2", "set(0,9) scale(1,3) image()=0 set(0,8) scale(2,2) restore()=0 weight(0)=9 scale(0,0)=13");
        s.of(38, "-3 there is none.", "restore()=-3 image()=0 restore()=0 count(13)=1", "{n6;} restore()=-3 restore()=-3 count(13)=2 count(0)=6");
        s.refused(38, "-3 there is none.", Settings.MUCH_WITHOUT_IMAGE, "restore()=-3");
        s.same(38, "It is RESTORED:", Settings.MUCH_WITHOUT_LETTERS + " image()=3 {n2;} restore()=3", Settings.MUCH_WITHOUT_LETTERS + " image()=3");
    }

    private static void count(Sentences s) {
        s.of(39, "0 STONES, 1 WEIGHINGS, 2 COMPARISONS, 3 LIKINGS, 4 all WEIGHTS, 5 letters, 6 in the ROW, 11 .. 16 REFUSALS -1 .. -6.",
            "count(0)=3 count(1)=0 count(2)=0 count(3)=0 count(4)=30 count(5)=0 count(6)=0 count(11)=0 count(12)=0 count(13)=0 count(14)=0 count(15)=0 count(16)=0",
            "{n6;w01;b012;b011;l01;l12;l23;c01;c12;c23;c34;} feed(0) row(1) row(2) count(0)=6 count(1)=2 count(2)=4 count(3)=3 count(4)=51 count(5)=1 count(6)=2",
            "{n6;l01;l02;l03;l04;l05;l12;l13;l14;l15;l23;l24;l25;l34;l35;l45;} 24*weigh(0,1) " + FULL_ROW + " 12*compare(4,5) 96*feed(9) set(0,99) set(1,99) set(2,99) set(3,99) set(4,99) set(5,99)"
            + " count(0)=6 count(1)=24 count(2)=12 count(3)=15 count(4)=594 count(5)=96 count(6)=12",
            "{n2;w01;w11;} count(0)=2 count(4)=2",
            "weight(3) weight(3) weight(3) plan(6) plan(6) strike() restore() strike() row(-1) row(10) row(10) row(10) row(10) count(11)=3 count(12)=2 count(13)=3 count(14)=1 count(15)=0 count(16)=4",
            "510*weight(-1)=-1 count(11)=510");
        s.of(39, "-9 for another what.", "count(-1)=-9 count(7)=-9 count(8)=-9 count(9)=-9 count(10)=-9 count(17)=-9 count(MIN)=-9 count(MAX)=-9"
            + " count(11)=0 count(12)=0 count(13)=0 count(14)=0 count(15)=0 count(16)=0");
        s.same(39, "-9 for another what.", Settings.MUCH + " count(7) count(17) count(-1)", Settings.MUCH);
    }

    private static void refusals(Sentences s) {
        s.of(39, "REFUSALS (the call answers the number, the first that fits in the order in which it tells them; nothing changes but how many there were):",
            "set(3,0)=-1 scale(6,-1)=-2 found(6,-1)=-2 law(0,9)=-4 law(21,9)=-6 seeds(6,0,0)=-2 count(11)=1 count(12)=3 count(14)=1 count(16)=1",
            "orders(3)=-9 next(0) {b012;b122;} next(0)=-9 found(0,2)=-9 mends() turns(3)=-9 judge()=-9 count(99)=-9 count(11)=0 count(12)=0 count(13)=0 count(14)=0 count(16)=0",
            "weight(3)=-1 image()=0 {n4;} restore()=0 count(11)=1", "weight(3)=-1 {n4;} count(11)=1");
        s.of(39, "-4 BELOW: a number below the least.", "feed(-1)=-4 set(0,0)=-4 scale(0,-1)=-4 orders(-2)=-4 found(0,-1)=-4 turns(-2)=-4 law(0,0)=-4 row(-1)=-4 seeds(0,0,0)=-4 count(14)=9");
        s.of(39, "-6 ROOM: a number above the greatest, no room.", "feed(256)=-6 set(0,100)=-6 scale(0,10)=-6 law(21,0)=-6 row(10)=-6 seeds(0,21,0)=-6 24*weigh(0,1) weigh(0,1)=-6"
            + " 12*compare(0,1) compare(0,1)=-6 12*row(0) row(0)=-6 96*feed(0) feed(0)=-6 count(16)=10");
    }
}
