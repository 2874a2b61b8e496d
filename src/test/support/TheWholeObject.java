/** What the document says ahead of the face and behind the promises: how long an object is used, and what a call may change. */
final class TheWholeObject {
    private static final String AT_MOST = "An object is used for at most 512 calls after it has been made; what later calls answer is free.";
    private static final String NOTHING_ELSE = "Nothing is promised beyond the answers and state changes described above,";
    private static final String ASKING = "weight(0) weight(3) would(0,1) would(3,1) book(0) book(2) above(0) above(3) ringed() orders(-1) orders(0) orders(9)"
        + " next(0) next(1) lies() open() tells(0) tells(5) worst(0) worst(5) mean(2,0) mean(5,1) plan(0) plan(1) plan(2) plan(3) plan(4) plan(5)"
        + " found(0,1) found(1,0) found(2,1) found(3,3) found(4,0) found(5,9) sorts() gap() rounds() through(0) through(3) idle() mends() loops()"
        + " turns(-1) turns(0) turns(9) law(1,0) law(20,3) seeds(0,1,1) seeds(5,20,-7) count(0) count(4) count(11) count(16) count(17)";

    static void all(Sentences s) {
        calls(s);
        sideBySide(s);
        asking(s);
        afterwards(s);
    }

    private static void calls(Sentences s) {
        String[] runs = {
            "511*would(0,1)=1 weigh(0,1)=1", "{n4;w055;b012;b120;} 491*worst(5)=3 mean(5,0)=3 mean(5,1)=1",
            "{n6;c01;} 503*seeds(5,20,9) gap()=56", "{n6;b012;} 501*next(0)=23 next(1)=180 orders(-1)=360",
            "24*weigh(0,1) 487*weigh(0,1)=-6 count(16)=487", "image()=0 set(0,9)=10 508*restore()=0 weight(0)=10 restore()=0",
            "[" + "b010;".repeat(19) + "] barn()=19 [" + "b010;".repeat(6) + "] barn()=-2025 384*book(19)=-1 count(11)=384"};
        for (String run : runs) {
            s.test(Sentences.AHEAD, AT_MOST, x -> {
                x.carryOut(run);
                x.mustBeUsedUp();
            });
        }
    }

    /** Of two objects none sees what is done with the other. */
    private static void sideBySide(Sentences s) {
        s.test(1, "Three STONES alike.", first -> {
            Calls other = new Calls(s);
            first.carryOut(Settings.MUCH);
            other.carryOut("count(0)=3 count(4)=30 count(1)=0 count(2)=0 count(3)=0 count(5)=0 count(6)=0 scale(0,0)=0 restore()=-3 ringed()=0 gap()=4 turns(0)=0");
            first.carryOut("count(13)=0 count(0)=4 image()=3");
            other.carryOut("restore()=-3 {n2;b102;c01;l10;} worst(0)=0 tells(0)=1 sorts()=1 turns(0)=1 found(4,1)=1");
            first.carryOut("count(0)=4 count(3)=4 restore()=3 count(0)=4 worst(9)=-2 count(12)=1");
            other.carryOut("count(0)=2 count(12)=0 count(13)=2");
        });
    }

    private static void asking(Sentences s) {
        for (String call : ASKING.split(" ")) {
            s.same(Sentences.BEHIND, NOTHING_ELSE, Settings.MUCH + " " + call, Settings.MUCH);
            s.same(Sentences.BEHIND, NOTHING_ELSE, Settings.FIVE_ALIKE + " " + call, Settings.FIVE_ALIKE);
        }
    }

    /** The same calls answer the same, whatever was asked between them. */
    private static void afterwards(Sentences s) {
        String once = "{n4;w055;w117;w299;w308;s42;b012;b231;l01;l12;l20;c01;c23;} ";
        String asked = "above(0)=2 ringed()=0 orders(-1)=12 orders(0)=0 next(0)=23 next(1)=6 lies()=0 open()=5 worst(5)=4 mean(5,0)=11 mean(5,1)=3"
            + " plan(0)=5 plan(2)=4 found(3,0)=2 found(3,3)=3 gap()=9 rounds()=1 through(0)=0 through(3)=3 idle()=0 mends()=12 loops()=1 turns(-1)=1 turns(0)=0 seeds(4,5,1) ";
        s.of(Sentences.BEHIND, NOTHING_ELSE, once + asked + asked + ASKING + " " + asked);
    }
}
