/** Promise 3: barns told in letters. */
final class BarnLetters {
    private static final String ALL = "{n4;w055;s42;b012;b231;l01;l12;c01;c23;}";

    static void all(Sentences s) {
        statements(s);
        anew(s);
        weightsAndScales(s);
        booksLikingsNets(s);
        faultsOfForm(s);
        faultsOfMeaning(s);
        allOrNothing(s);
    }

    private static void statements(Sentences s) {
        String half = "n2;".repeat(16);
        s.of(3, "A BARN is told in letters, one by one (96 at most):",
            "[" + half + half + "] count(5)=96 barn()=32 count(5)=0 count(0)=2",
            "[" + half + half + "] feed(110)=-6 barn()=32 {n3;}=1",
            "[" + half + half.substring(1) + "] count(5)=95 barn()=-1048");
        s.of(3, "STATEMENTS, each with \";\" behind:", "{n4;}=1 {n5}=-1002 {n5;n6}=-1005 {n5n6;}=-1002 {n5,}=-1002 {n5:}=-1002 count(0)=4",
            "{n4;w09;s11;b012;l01;c01;}=6", "{n4;;}=-1003 {;n4;}=-1000");
        s.of(3, "At least one STATEMENT.", "{}=-1000 {n4;}=1 {}=-1000 {;}=-1000 count(0)=4");
        s.of(3, "The letters, which are no more then (with a FAULT neither), are a BARN: how many STATEMENTS;",
            "{n4;w09;}=2 count(5)=0 {}=-1000", "{n9;}=-2000 count(5)=0 {}=-1000", "[n4] count(5)=2 barn()=-1002 count(5)=0 {;}=-1000", "{n4;n5;n6;}=3 count(0)=6");
        s.of(3, "the FAULT (nothing is counted).", "{}=-1000 {x}=-1000 {n9;}=-2000 {w000;}=-2000 {w30;}=-2000 {w310;}=-2000 {s60;}=-2000 {c10;}=-2000"
            + " count(11)=0 count(12)=0 count(13)=0 count(14)=0 count(15)=0 count(16)=0",
            "24*weigh(0,1)=1 {b010;}=-2000 12*compare(0,1) {c01;}=-2000 count(16)=0",
            "{w05;w30;}=-2004 {w05;w000;}=-2004 {w05;s60;}=-2004 {w05;w0;}=-1006 {n3;x}=-1003 {l01;l11;}=-2004 {n3;n7;}=-2003"
            + " count(11)=0 count(12)=0 count(13)=0 count(14)=0 count(15)=0 count(16)=0");
    }

    private static void anew(Sentences s) {
        s.of(3, "\"n\" how many STONES (a digit): WEIGHTS 10 each, the BOOK empty, no LIKINGS, no NET;",
            "{n2;} count(0)=2 {n6;} count(0)=6 {n1;}=-2000 {n7;}=-2000 {n;}=-1001 {n22;}=-1002 count(0)=6",
            ALL + " {n4;} weight(0)=10 count(4)=40 count(1)=0 book(0)=-1 count(3)=0 count(2)=0 like(0,1)=1 rounds()=0 above(0)=0 gap()=11",
            ALL + " {n4;} scale(0,0)=42",
            ALL + " image()=2 row(3)=1 {n2;} row(3)=2 restore()=2 count(0)=4 count(4)=85",
            "{n6;w599;n3;n6;} weight(5)=10 count(4)=60",
            "{n6;l45;n4;} count(3)=0 loops()=0 {n6;} count(3)=0 like(4,5)=1");
        s.same(3, "\"n\" how many STONES (a digit): WEIGHTS 10 each, the BOOK empty, no LIKINGS, no NET;", ALL + " {n5;}", "{n5;s42;}");
    }

    private static void weightsAndScales(Sentences s) {
        s.of(3, "\"w\" a STONE (a digit), WEIGHT (1 or 2 digits);",
            "{w05;} weight(0)=5 {w125;} weight(1)=25 {w21;w299;} weight(2)=99 {w01;} weight(0)=1",
            "{w0;}=-1002 {w0100;}=-1004 {w;}=-1001 {w0:;}=-1002 {w0/;}=-1002 {w00;}=-2000 {w000;}=-2000 {w35;}=-2000 {w25;} weight(2)=5 weight(0)=10",
            "{n2;} {w15;} {w25;}=-2000", "{n6;} {w59;} {w69;}=-2000");
        s.of(3, "\"s\" KIND, FIGURE (a digit each);",
            "{s59;} scale(0,0)=59 {s00;} scale(1,1)=0 {s60;}=-2000 {s90;}=-2000 {s5;}=-1002 {s;}=-1001 {s111;}=-1003 {s0-;}=-1002 scale(0,0)=11");
    }

    private static void booksLikingsNets(Sentences s) {
        s.of(3, "\"b\" two STONES, what was told (a digit each): into the BOOK, without a SCALE;",
            "{s50;w199;b012;b120;b021;} count(1)=3 book(0)=12 book(1)=120 book(2)=21 above(0)=2 above(2)=2",
            "{b013;}=-2000 {b019;}=-2000 {b002;}=-2000 {b222;}=-2000 {b032;}=-2000 {b302;}=-2000 count(1)=0 {b212;} count(1)=1",
            "{b01;}=-1003 {b0;}=-1002 {b;}=-1001 {b0122;}=-1004 count(1)=0",
            "23*weigh(0,1) {b010;} count(1)=24 {b010;}=-2000 count(1)=24",
            "{s20;w011;} would(0,1)=2 {b011;} would(0,1)=0");
        s.of(3, "\"l\" two STONES (a digit each): the first is LIKED better than the second;",
            "{l20;} count(3)=1 turns(0)=1 turns(1)=2 turns(2)=0 like(2,0)=2 {l02;} count(3)=1 like(2,0)=0",
            "{l00;}=-2000 {l03;}=-2000 {l30;}=-2000 {l0;}=-1002 {l;}=-1001 {l012;}=-1003 count(3)=0",
            "{l01;l10;l01;} count(3)=1 like(1,0)=0");
        s.of(3, "\"c\" two PLACES (a digit each, the lesser ahead): one COMPARISON more at the end of the NET (12 at most).",
            "{w120;w230;} compare(0,1)=1 {c12;} count(2)=2 through(0)=1 through(1)=2 through(2)=0",
            "{w120;w230;} compare(1,2)=1 {c01;} through(0)=2 through(1)=0 through(2)=1",
            "{c10;}=-2000 {c00;}=-2000 {c03;}=-2000 {c30;}=-2000 {c0;}=-1002 {c;}=-1001 {c012;}=-1003 count(2)=0 {c12;} count(2)=1",
            "11*compare(0,1) {c01;} count(2)=12 {c01;}=-2000 count(2)=12 {n3;c01;} count(2)=1",
            "{" + "c01;".repeat(12) + "} count(2)=12", "{" + "c01;".repeat(13) + "}=-2048 count(2)=0");
    }

    private static void faultsOfForm(Sentences s) {
        String forms = "FAULT: kind 1 the place of the first letter with which no BARN can go on (the end, if something lacks): -1000 less the place;";
        s.of(3, forms,
            "{}=-1000 {n}=-1001 {n3}=-1002 {w}=-1001 {w0}=-1002 {w05}=-1003 {w055}=-1004 {s}=-1001 {s1}=-1002 {s11}=-1003 {b}=-1001 {b0}=-1002"
            + " {b01}=-1003 {b012}=-1004 {l}=-1001 {l0}=-1002 {l01}=-1003 {c}=-1001 {c0}=-1002 {c01}=-1003",
            "{x}=-1000 {N3;}=-1000 {3}=-1000 {;}=-1000 {nn}=-1001 {n;}=-1001 {n3n}=-1002 {n33}=-1002 {w;}=-1001 {w0;}=-1002 {w055;x}=-1005 {w0555}=-1004"
            + " {sx}=-1001 {s1x}=-1002 {s11x}=-1003 {bx}=-1001 {b0x}=-1002 {b01x}=-1003 {b012x}=-1004 {lx}=-1001 {l0x}=-1002 {l01x}=-1003"
            + " {cx}=-1001 {c0x}=-1002 {c01x}=-1003 {a}=-1000 {d}=-1000 {m}=-1000 {o}=-1000 {k}=-1000 {r}=-1000 {t}=-1000 {v}=-1000",
            "{n3;w0}=-1005 {n3;x}=-1003 {n3;w05;n}=-1008 {n3;w05;n4;}=3 {n/;}=-1001 {n:;}=-1001 {n3;n3;n3;n}=-1010",
            "feed(0) barn()=-1000 feed(255) barn()=-1000 feed(110) feed(32) barn()=-1001 feed(110) feed(179) barn()=-1001",
            "[" + "b010;".repeat(19) + "x] barn()=-1095 [" + "b010;".repeat(18) + "n3;c01] barn()=-1096 count(1)=0");
        s.of(3, forms, "{n9;x}=-1003 {n9;n}=-1004 {w300;n3;b}=-1009 {c10;c}=-1005 {n9;n9;}=-2000");
    }

    private static void faultsOfMeaning(Sentences s) {
        String firstWrong = "else kind 2 the place of the first letter of the first STATEMENT that, behind all ahead of it in the text, is not as it must be";
        s.of(3, firstWrong,
            "{n4;w310;w410;}=-2008 {n4;w310;}=2", "{w310;n4;}=-2000", "{n6;c45;n2;c45;}=-2010", "{n2;c12;}=-2003 {n2;b121;}=-2003 {n2;l20;}=-2003 {n2;w25;}=-2003",
            "{n9;w310;w300;}=-2000 {n3;w310;n9;}=-2003", "{b010;b010;n3;b033;}=-2013");
        s.of(3, firstWrong,
            "24*weigh(0,1) {b010;n3;}=-2000 {n3;b010;}=2 count(1)=1", "12*compare(0,1) {c01;n3;}=-2000 {n3;c01;}=2 count(2)=1",
            "23*weigh(0,1) {b010;b010;}=-2005 {w05;b010;b010;}=-2009 count(1)=23 weight(0)=10");
        s.of(3, "(a number out of range, no such STONE, PLACE, one twice, not the lesser ahead, no room): -2000 less the place.",
            "{n1;}=-2000 {n7;}=-2000 {w00;}=-2000 {s60;}=-2000 {b013;}=-2000", "{w31;}=-2000 {b300;}=-2000 {b030;}=-2000 {l30;}=-2000 {l03;}=-2000",
            "{c03;}=-2000 {c30;}=-2000 {c34;}=-2000", "{b000;}=-2000 {l11;}=-2000 {c22;}=-2000", "{c10;}=-2000 {c21;}=-2000",
            "24*weigh(0,1) {b010;}=-2000", "12*compare(0,1) {c12;}=-2000");
    }

    private static void allOrNothing(Sentences s) {
        String[] faults = {"{w05;s22;b302;l10;c12;n5;n9;}=-2024", "{w05;s22;b302;l10;c12;n5;n}=-1025", "{n2;w05;w25;}=-2007", "{s11;l23;c13;b313;}=-2012",
            "{}=-1000", "{n9;}=-2000"};
        for (String fault : faults) {
            s.same(3, "Without FAULT all of it comes, with one nothing.", Settings.MUCH_WITHOUT_LETTERS + " " + fault, Settings.MUCH_WITHOUT_LETTERS);
        }
        s.same(3, "Without FAULT all of it comes, with one nothing.", Settings.MUCH_WITHOUT_LETTERS + " {w05;s22;b302;l10;c12;}",
            Settings.MUCH_WITHOUT_LETTERS + " {w05;} scale(2,2)=33 {b302;} like(1,0)=0 compare(1,2)=4");
        s.of(3, "Without FAULT all of it comes, with one nothing.",
            "{n4;w055;s42;b012;b231;l01;l12;c01;c23;}=9 count(0)=4 count(1)=2 count(2)=2 count(3)=2 count(4)=85 scale(0,0)=42 book(0)=12 book(1)=231",
            "{n6;w099;s11;b012;l01;c01;n1;}=-2025 count(0)=3 count(1)=0 count(2)=0 count(3)=0 count(4)=30 scale(0,0)=0");
    }
}
