/** For each promise: ordinary inputs, the edges that the document names, and each refusal that it tells. */
public final class PromiseTest {
    private static final long REFUSED = 4000000000000000000L;
    private static int wrong = 0;
    private static int promise = 0;

    private static void due(String call, long got, long want) {
        if (got != want) {
            wrong++;
            System.out.println("promise " + promise + ": " + call + " answered " + got + ", due is " + want);
        }
    }

    private static int barn(HeaviestLightest x, String text) {
        for (int i = 0; i < text.length(); i++) {
            x.feed(text.charAt(i));
        }
        return x.barn();
    }

    private static HeaviestLightest told(String text) {
        HeaviestLightest x = new HeaviestLightest();
        int statements = barn(x, text);
        due("barn() of " + text, statements, text.split(";").length);
        return x;
    }

    private static void counts(HeaviestLightest x, int... want) {
        for (int i = 0; i < want.length; i++) {
            due("count(" + i + ")", x.count(i), want[i]);
        }
    }

    private static void refusals(HeaviestLightest x, int... want) {
        for (int i = 0; i < 6; i++) {
            due("count(" + (11 + i) + ")", x.count(11 + i), want[i]);
        }
    }

    public static void main(String[] args) {
        begin();
        letters();
        barnForm();
        barnStatements();
        weights();
        scales();
        weighings();
        follows();
        ordersThatFit();
        liesAndOpen();
        wanted();
        plans();
        net();
        netBits();
        likings();
        law();
        rows();
        seeds();
        images();
        countings();
        System.out.println(wrong == 0 ? "every promise answers as due" : wrong + " answers are not as due");
        if (wrong != 0) {
            System.exit(1);
        }
    }

    private static void begin() {
        promise = 1;
        HeaviestLightest x = new HeaviestLightest();
        counts(x, 3, 0, 0, 0, 30, 0, 0);
        refusals(x, 0, 0, 0, 0, 0, 0);
        due("weight(2)", x.weight(2), 10);
        due("weight(3)", x.weight(3), -1);
        due("scale(0, 0)", x.scale(0, 0), 0);
        due("restore()", x.restore(), -3);
    }

    private static void letters() {
        promise = 2;
        HeaviestLightest x = new HeaviestLightest();
        due("feed(-1)", x.feed(-1), -4);
        due("feed(256)", x.feed(256), -6);
        due("feed(MAX)", x.feed(Integer.MAX_VALUE), -6);
        due("feed(MIN)", x.feed(Integer.MIN_VALUE), -4);
        for (int i = 1; i <= 96; i++) {
            due("feed", x.feed(i % 2 == 0 ? 0 : 255), i);
        }
        due("feed the 97th", x.feed(0), -6);
        due("feed(-1) of full", x.feed(-1), -4);
        due("count(5)", x.count(5), 96);
        refusals(x, 0, 0, 0, 3, 0, 3);
    }

    private static void barnForm() {
        promise = 3;
        HeaviestLightest x = new HeaviestLightest();
        String[] texts = {"", "n", "n1", ";", "0", "w01", "w0;", "w0123;", "w010;x", "n3", "n33;", "s12;s1;", "b012;l01;c01;c0",
            "n3;;", "N3;", "n:;", "n/;", "b0122;", "l012;", "c012;", "s123;", "n9;w", "n9;n33"};
        int[] places = {0, 1, 2, 0, 0, 3, 2, 4, 5, 2, 2, 6, 15, 3, 0, 1, 1, 4, 3, 3, 3, 4, 5};
        for (int i = 0; i < texts.length; i++) {
            due("barn() of " + texts[i], barn(x, texts[i]), -1000 - places[i]);
            due("letters after " + texts[i], x.count(5), 0);
        }
        for (int i = 0; i < 96; i++) {
            x.feed(i % 3 == 0 ? 'n' : i % 3 == 1 ? '2' : ';');
        }
        due("barn() of 96 letters", x.barn(), 32);
        refusals(x, 0, 0, 0, 0, 0, 0);
    }

    private static void barnStatements() {
        promise = 3;
        String[] wrongs = {"n0;", "n1;", "n7;", "w310;", "w000;", "w00;", "s60;", "s90;", "b300;", "b031;", "b001;", "b013;",
            "l03;", "l30;", "l22;", "c00;", "c10;", "c03;", "c31;"};
        HeaviestLightest x = new HeaviestLightest();
        for (String s : wrongs) {
            due("barn() of " + s, barn(x, s), -2000);
            due("barn() of w17;" + s + "w2;", barn(x, "w17;" + s + "w2;"), -1000 - (4 + s.length() + 2));
            due("barn() of w17;" + s + "n9;", barn(x, "w17;" + s + "n9;"), -2004);
            due("weight(1) as it was", x.weight(1), 10);
        }
        refusals(x, 0, 0, 0, 0, 0, 0);
        due("by what is ahead", barn(x, "w310;n4;"), -2000);
        due("by what is ahead", barn(x, "n4;w310;w005;w199;c23;l30;b342;s59;"), -2026);
        due("by what is ahead", barn(x, "n4;w310;w105;w199;c23;l30;b302;s59;"), 8);
        counts(x, 4, 1, 1, 1, 10 + 99 + 10 + 10, 0, 0);
        due("scale", x.scale(1, 2), 59);
        due("book(0)", x.book(0), 302);
        due("n alone", barn(x, "n3;"), 1);
        counts(x, 3, 0, 0, 0, 30, 0, 0);
        due("the scale stays", x.scale(0, 0), 12);
        due("one digit", barn(x, "w07;w12;w299;"), 3);
        due("count(4)", x.count(4), 7 + 2 + 99);
        due("twelve", barn(x, "c01;c01;c01;c01;c01;c01;c01;c01;c01;c01;c01;c01;"), 12);
        due("no room in the net", barn(x, "w01;c01;"), -2004);
        due("the net is emptied", barn(x, "n3;c01;"), 2);
        due("24 at most", barn(x, "b010;b010;b010;b010;b010;b010;b010;b010;b010;b010;b010;b010;"), 12);
        due("24 at most", barn(x, "b010;b010;b010;b010;b010;b010;b010;b010;b010;b010;b010;b010;"), 12);
        due("no room in the book", barn(x, "b010;"), -2000);
        due("the book is emptied", barn(x, "n2;b012;"), 2);
        due("count(1)", x.count(1), 1);
        due("turned by letters", barn(x, "l01;l10;"), 2);
        due("count(3)", x.count(3), 1);
        due("like(1, 0)", x.like(1, 0), 2);
    }

    private static void weights() {
        promise = 4;
        HeaviestLightest x = new HeaviestLightest();
        due("weight(-1)", x.weight(-1), -1);
        due("weight(MAX)", x.weight(Integer.MAX_VALUE), -1);
        promise = 5;
        due("set(0, 99)", x.set(0, 99), 10);
        due("set(0, 1)", x.set(0, 1), 99);
        due("set(3, 0)", x.set(3, 0), -1);
        due("set(-1, 5)", x.set(-1, 5), -1);
        due("set(0, 0)", x.set(0, 0), -4);
        due("set(0, 100)", x.set(0, 100), -6);
        promise = 4;
        due("weight(0)", x.weight(0), 1);
        refusals(x, 4, 0, 0, 1, 0, 1);
    }

    private static void scales() {
        promise = 6;
        HeaviestLightest x = new HeaviestLightest();
        due("scale(5, 9)", x.scale(5, 9), 0);
        due("scale(6, -1)", x.scale(6, -1), -2);
        due("scale(-1, 0)", x.scale(-1, 0), -2);
        due("scale(0, -1)", x.scale(0, -1), -4);
        due("scale(0, 10)", x.scale(0, 10), -6);
        due("scale(0, 0)", x.scale(0, 0), 59);
        refusals(x, 0, 2, 0, 1, 0, 1);
        promise = 7;
        barn(x, "w010;w113;w216;");
        int[][] want = {{0, 2, 0, 1}, {1, 1, 0, 1}, {0, 2, 0, 1}, {1, 1, 2, 1}, {1, 1, 0, 1}, {2, 0, 2, 1}};
        for (int kind = 0; kind < 6; kind++) {
            x.scale(kind, 3);
            due("would(0, 1) by " + kind, x.would(0, 1), want[kind][0]);
            due("would(1, 0) by " + kind, x.would(1, 0), want[kind][1]);
            due("would(0, 2) by " + kind, x.would(0, 2), want[kind][2]);
            x.set(0, 13);
            due("would(0, 1) alike by " + kind, x.would(0, 1), want[kind][3]);
            x.set(0, 10);
        }
        x.scale(0, 9);
        x.set(0, 12);
        due("would(0, 1) of one less by a scale", x.would(0, 1), 0);
        due("would(1, 0) of one more by a scale", x.would(1, 0), 2);
        x.scale(2, 0);
        due("would(0, 1) of one less by a wrong scale", x.would(0, 1), 0);
        due("would(0, 0)", x.would(0, 0), -1);
        due("would(0, 3)", x.would(0, 3), -1);
        due("would(-1, 1)", x.would(-1, 1), -1);
        due("count(1)", x.count(1), 0);
    }

    private static void weighings() {
        promise = 8;
        HeaviestLightest x = told("w013;w110;w212;");
        int[] byWrong = {2, 2, 0, 2, 2, 0, 2};
        x.scale(2, 1);
        for (int i = 0; i < byWrong.length; i++) {
            due("the " + i + "th weigh(0, 1) by a wrong scale", x.weigh(0, 1), byWrong[i]);
        }
        barn(x, "n3;w013;w110;w212;s51;");
        for (int i = 0; i < byWrong.length; i++) {
            due("the " + i + "th weigh(0, 1) by a turned scale", x.weigh(0, 1), 2 - byWrong[i]);
        }
        barn(x, "n3;w013;w110;w212;s42;");
        for (int i = 0; i < 10; i++) {
            due("the " + i + "th weigh(0, 1) by a tired scale", x.weigh(0, 1), i < 5 ? 2 : 1);
        }
        due("weigh(1, 1)", x.weigh(1, 1), -1);
        due("weigh(3, 1)", x.weigh(3, 1), -1);
        due("weigh(1, -1)", x.weigh(1, -1), -1);
        x.scale(0, 9);
        for (int i = 10; i < 24; i++) {
            due("weigh(1, 2)", x.weigh(1, 2), 0);
        }
        due("weigh the 25th", x.weigh(1, 2), -6);
        due("weigh(1, 3) of full", x.weigh(1, 3), -1);
        promise = 9;
        due("book(0)", x.book(0), 12);
        due("book(9)", x.book(9), 11);
        due("book(23)", x.book(23), 120);
        due("book(24)", x.book(24), -1);
        due("book(-1)", x.book(-1), -1);
        promise = 10;
        due("strike()", x.strike(), 23);
        due("book(23)", x.book(23), -1);
        due("weigh(2, 1)", x.weigh(2, 1), 2);
        for (int left = 23; left >= 0; left--) {
            due("strike()", x.strike(), left);
        }
        due("strike() of none", x.strike(), -3);
        refusals(x, 7, 0, 1, 0, 0, 1);
    }

    private static void follows() {
        promise = 11;
        HeaviestLightest x = told("n5;b012;b210;b231;b340;");
        due("above(0)", x.above(0), 2 + 4);
        due("above(1)", x.above(1), 4);
        due("above(2)", x.above(2), 0);
        due("above(3)", x.above(3), 0);
        due("above(4)", x.above(4), 8);
        due("above(5)", x.above(5), -1);
        due("above(-1)", x.above(-1), -1);
        promise = 12;
        due("ringed() of none", x.ringed(), 0);
        barn(x, "b432;");
        due("ringed()", x.ringed(), 0);
        barn(x, "b342;");
        due("ringed()", x.ringed(), 8 + 16);
        promise = 11;
        due("above(4) in a ring", x.above(4), 8 + 16);
        due("count(1)", x.count(1), 6);
        barn(x, "n3;b102;b022;");
        due("above(1) by stone 0", x.above(1), 1 + 4);
        barn(x, "b212;");
        due("above(0) in a ring of all", x.above(0), 7);
        promise = 12;
        due("ringed() of all", x.ringed(), 7);
        refusals(x, 2, 0, 0, 0, 0, 0);
    }

    private static void ordersThatFit() {
        promise = 13;
        HeaviestLightest x = told("n6;");
        due("orders(-1) of six", x.orders(-1), 720);
        barn(x, "b502;b452;b312;");
        due("orders(-1)", x.orders(-1), 60);
        int[] first = {2, 3, 1, 4, 5, 0};
        for (int k = 0; k < 6; k++) {
            due("orders(" + k + ")", x.orders(k), first[k]);
        }
        due("orders(6)", x.orders(6), -9);
        due("orders(MAX)", x.orders(Integer.MAX_VALUE), -9);
        due("orders(-2)", x.orders(-2), -4);
        HeaviestLightest y = told("n4;b202;");
        due("orders(0) of y", y.orders(0), 1);
        due("orders(1) of y", y.orders(1), 2);
        due("orders(2) of y", y.orders(2), 0);
        due("orders(3) of y", y.orders(3), 3);
        promise = 14;
        due("next(0) of y", y.next(0), 13);
        due("next(1) of y", y.next(1), 6);
        due("next(0) of three new ones", new HeaviestLightest().next(0), 1);
        due("next(0)", x.next(0), 25);
        due("next(1)", x.next(1), 30);
        due("next(2)", x.next(2), -2);
        due("next(-1)", x.next(-1), -2);
        barn(x, "n4;b012;b232;");
        due("next(0) of two chains", x.next(0), 2);
        due("next(1) of two chains", x.next(1), 3);
        barn(x, "b122;");
        due("next(0) when all is told", x.next(0), -9);
        due("next(1) when all is told", x.next(1), -9);
        barn(x, "n3;b012;b102;");
        due("next(0) in a ring", x.next(0), -9);
        due("next(1) in a ring", x.next(1), -9);
        promise = 13;
        due("orders(-1) in a ring", x.orders(-1), 0);
        due("orders(0) in a ring", x.orders(0), -9);
        refusals(x, 0, 2, 0, 1, 0, 0);
    }

    private static void liesAndOpen() {
        promise = 15;
        HeaviestLightest x = told("b012;b122;");
        due("lies() without a ring", x.lies(), 0);
        barn(x, "b202;b011;");
        due("lies()", x.lies(), 7);
        barn(x, "b012;");
        due("lies()", x.lies(), 2 + 4);
        barn(x, "n4;b012;b102;b232;b322;");
        due("lies() of two rings", x.lies(), 0);
        promise = 16;
        due("open() of two rings", x.open(), 4);
        barn(x, "n6;");
        due("open() of six", x.open(), 15);
        barn(x, "b012;b210;b341;");
        due("open()", x.open(), 12);
    }

    private static void wanted() {
        HeaviestLightest x = told("n4;");
        int[] worst = {3, 3, 4, 4, 4, 5};
        for (int w = 0; w < 6; w++) {
            promise = 17;
            due("tells(" + w + ")", x.tells(w), 0);
            promise = 18;
            due("worst(" + w + ")", x.worst(w), worst[w]);
        }
        promise = 19;
        due("mean(5, 0)", x.mean(5, 0), 14);
        due("mean(5, 1)", x.mean(5, 1), 3);
        due("mean(6, 0)", x.mean(6, 0), REFUSED + 2);
        due("mean(-1, 0)", x.mean(-1, 0), REFUSED + 2);
        due("mean(0, -1)", x.mean(0, -1), REFUSED + 2);
        due("mean(0, 2)", x.mean(0, 2), REFUSED + 2);
        promise = 17;
        due("tells(6)", x.tells(6), -2);
        due("tells(-1)", x.tells(-1), -2);
        promise = 18;
        due("worst(6)", x.worst(6), -2);
        due("worst(-1)", x.worst(-1), -2);
        for (String none : new String[] {"n5;", "n3;b012;b102;"}) {
            barn(x, none);
            promise = 17;
            due("tells(0) of " + none, x.tells(0), -3);
            due("tells(9) of " + none, x.tells(9), -2);
            promise = 18;
            due("worst(5) of " + none, x.worst(5), -3);
            promise = 19;
            due("mean(0, 1) of " + none, x.mean(0, 1), REFUSED + 3);
            due("mean(0, 3) of " + none, x.mean(0, 3), REFUSED + 2);
        }
        refusals(x, 0, 12, 6, 0, 0, 0);
        wantedOfFew(x);
    }

    private static void wantedOfFew(HeaviestLightest x) {
        promise = 17;
        barn(x, "n4;b012;b122;b230;");
        int[] tells = {0, 1, 0, 0, 0, 0};
        for (int w = 0; w < 6; w++) {
            due("tells(" + w + ") of three heavier than 2", x.tells(w), tells[w]);
        }
        barn(x, "n4;b012;b132;b232;b122;");
        for (int w = 0; w < 6; w++) {
            due("tells(" + w + ") of a chain", x.tells(w), 1);
        }
        barn(x, "n4;b012;b022;b032;b132;b232;");
        int[] ends = {1, 1, 1, 0, 0, 0};
        for (int w = 0; w < 6; w++) {
            due("tells(" + w + ") of both ends", x.tells(w), ends[w]);
        }
        barn(x, "n4;b012;b122;b132;");
        int[] firstTwo = {1, 0, 0, 1, 0, 0};
        for (int w = 0; w < 6; w++) {
            due("tells(" + w + ") of the first two", x.tells(w), firstTwo[w]);
        }
        barn(x, "n4;b012;b022;b032;b132;b232;");
        promise = 18;
        due("worst(4) of both ends", x.worst(4), 1);
        due("worst(2) of both ends", x.worst(2), 0);
        barn(x, "n3;");
        due("worst(4) of three", x.worst(4), 3);
        due("worst(1) of three", x.worst(1), 2);
        promise = 19;
        due("mean(1, 0) of three", x.mean(1, 0), 2);
        due("mean(1, 1) of three", x.mean(1, 1), 1);
        due("mean(2, 0) of three", x.mean(2, 0), 8);
        due("mean(2, 1) of three", x.mean(2, 1), 3);
        barn(x, "n2;");
        due("mean(4, 0) of two", x.mean(4, 0), 1);
        due("mean(4, 1) of two", x.mean(4, 1), 1);
        barn(x, "b011;");
        due("mean(4, 0): alike ones told nothing", x.mean(4, 0), 1);
        barn(x, "b010;");
        due("mean(4, 0) when told", x.mean(4, 0), 0);
        due("mean(4, 1) when told", x.mean(4, 1), 1);
    }

    private static void plans() {
        HeaviestLightest x = told("n6;w030;w150;w210;w350;w460;w520;");
        int[] often = {9, 7, 6, 10, 11, 9};
        int[][] found = {{4, 2, -9, -9, -9, -9, -9}, {4, 2, -9, -9, -9, -9, -9}, {4, 1, -9, -9, -9, -9, -9},
            {4, 1, 3, 0, 5, 2, -9}, {4, 1, 3, 0, 5, 2, -9}, {4, 1, 3, 0, 5, 2, -9}};
        for (int kind = 0; kind < 6; kind++) {
            promise = 20;
            due("plan(" + kind + ")", x.plan(kind), often[kind]);
            promise = 21;
            for (int k = 0; k < 7; k++) {
                due("found(" + kind + ", " + k + ")", x.found(kind, k), found[kind][k]);
            }
        }
        due("found(6, 0)", x.found(6, 0), -2);
        due("found(-1, -1)", x.found(-1, -1), -2);
        due("found(0, -1)", x.found(0, -1), -4);
        promise = 20;
        due("plan(6)", x.plan(6), -2);
        due("plan(-1)", x.plan(-1), -2);
        refusals(x, 0, 4, 0, 1, 0, 0);
        barn(x, "n5;");
        int[] alike = {7, 6, 4 + 2, 6, 5, 5};
        for (int kind = 0; kind < 6; kind++) {
            due("plan(" + kind + ") of five alike", x.plan(kind), alike[kind]);
        }
        promise = 21;
        due("found(1, 1) of five alike", x.found(1, 1), 4);
        due("found(3, 3) of five alike", x.found(3, 3), 3);
        barn(x, "s59;w499;");
        due("found(2, 0) by a right scale", x.found(2, 0), 4);
        promise = 20;
        due("plan(2) when the last one goes on alone", x.plan(2), 4);
        plansOfFew(x);
    }

    private static void plansOfFew(HeaviestLightest x) {
        barn(x, "n4;w01;w12;w23;w34;");
        promise = 20;
        int[] rising = {5, 4, 4, 5, 4, 4};
        for (int kind = 0; kind < 6; kind++) {
            due("plan(" + kind + ") of four rising", x.plan(kind), rising[kind]);
        }
        promise = 21;
        int[][] found = {{3, 0}, {3, 0}, {3, 2}, {3, 2}, {3, 2}, {3, 2}};
        for (int kind = 0; kind < 6; kind++) {
            due("found(" + kind + ", 0) of four rising", x.found(kind, 0), found[kind][0]);
            due("found(" + kind + ", 1) of four rising", x.found(kind, 1), found[kind][1]);
        }
        barn(x, "n4;w040;w120;w230;");
        promise = 20;
        int[] mixed = {5, 4, 4, 5, 5, 5};
        for (int kind = 0; kind < 6; kind++) {
            due("plan(" + kind + ") of four mixed", x.plan(kind), mixed[kind]);
        }
        barn(x, "n3;w010;w130;w220;");
        promise = 21;
        int[][] three = {{1, 0}, {1, 0}, {1, 2}, {1, 2}, {1, 2}, {1, 2}};
        for (int kind = 0; kind < 6; kind++) {
            due("found(" + kind + ", 0) of three", x.found(kind, 0), three[kind][0]);
            due("found(" + kind + ", 1) of three", x.found(kind, 1), three[kind][1]);
        }
        barn(x, "w299;");
        due("found(1, 0): the last one alone in both", x.found(1, 0), 2);
        due("found(1, 1): the last one alone in both", x.found(1, 1), 0);
        barn(x, "w25;");
        due("found(1, 1): the last one alone in both", x.found(1, 1), 2);
        barn(x, "n3;w090;w130;w220;");
        for (int kind = 0; kind < 6; kind++) {
            due("found(" + kind + ", 0) of three falling", x.found(kind, 0), 0);
            due("found(" + kind + ", 1) of three falling", x.found(kind, 1), kind < 2 ? 2 : 1);
        }
    }

    private static void net() {
        HeaviestLightest x = told("n4;w030;w115;w220;w399;");
        promise = 22;
        due("compare(0, 1)", x.compare(0, 1), 1);
        due("compare(1, 0)", x.compare(1, 0), -1);
        due("compare(1, 1)", x.compare(1, 1), -1);
        due("compare(0, 4)", x.compare(0, 4), -1);
        due("compare(-1, 0)", x.compare(-1, 0), -1);
        due("compare(2, 3)", x.compare(2, 3), 2);
        due("compare(0, 2)", x.compare(0, 2), 3);
        due("compare(1, 3)", x.compare(1, 3), 4);
        promise = 27;
        int[] behind = {3, 2, 0, 1};
        for (int p = 0; p < 4; p++) {
            due("through(" + p + ")", x.through(p), behind[p]);
        }
        due("through(4)", x.through(4), -1);
        due("through(-1)", x.through(-1), -1);
        HeaviestLightest y = told("c02;w299;");
        due("through(0) behind one", y.through(0), 2);
        due("through(2) behind one", y.through(2), 0);
        promise = 24;
        due("sorts()", x.sorts(), 0);
        promise = 25;
        due("gap()", x.gap(), 4);
        promise = 29;
        due("mends()", x.mends(), 12);
        promise = 26;
        due("rounds()", x.rounds(), 2);
        x.compare(1, 2);
        due("rounds()", x.rounds(), 3);
        promise = 24;
        due("sorts()", x.sorts(), 1);
        promise = 25;
        due("gap()", x.gap(), 0);
        promise = 29;
        due("mends() of none", x.mends(), -9);
        promise = 22;
        for (int i = 6; i <= 12; i++) {
            due("compare(0, 3)", x.compare(0, 3), i);
        }
        due("compare the 13th", x.compare(0, 3), -6);
        due("compare(3, 0) of full", x.compare(3, 0), -1);
        promise = 23;
        due("clear()", x.clear(), 12);
        due("clear() of none", x.clear(), 0);
        due("count(2)", x.count(2), 0);
        due("through(2)", x.through(2), 2);
        due("compare(2, 3)", x.compare(2, 3), 1);
        refusals(x, 7, 0, 0, 0, 0, 1);
    }

    private static void netBits() {
        HeaviestLightest x = told("n3;c01;c01;c12;c01;c02;c12;");
        promise = 28;
        due("idle()", x.idle(), 2 + 16 + 32);
        promise = 24;
        due("sorts()", x.sorts(), 1);
        promise = 26;
        due("rounds()", x.rounds(), 6);
        barn(x, "n6;");
        promise = 28;
        due("idle() of none", x.idle(), 0);
        promise = 25;
        due("gap() of six", x.gap(), 64 - 7);
        promise = 26;
        due("rounds() of none", x.rounds(), 0);
        barn(x, "c05;c14;c23;");
        due("rounds() at once", x.rounds(), 1);
        promise = 27;
        due("through(5): alike ones stay", x.through(5), 5);
        barn(x, "n2;");
        promise = 29;
        due("mends() of two", x.mends(), 1);
        barn(x, "n3;c01;");
        promise = 25;
        due("gap()", x.gap(), 3);
        promise = 29;
        due("mends()", x.mends(), 12);
        barn(x, "n3;c02;");
        due("mends(), of several the least", x.mends(), 1);
    }

    private static void likings() {
        promise = 30;
        HeaviestLightest x = told("n5;");
        due("like(0, 1)", x.like(0, 1), 1);
        due("like(0, 1)", x.like(0, 1), 2);
        due("like(1, 0)", x.like(1, 0), 0);
        due("like(1, 0)", x.like(1, 0), 2);
        due("like(0, 1)", x.like(0, 1), 0);
        due("like(0, 0)", x.like(0, 0), -1);
        due("like(0, 5)", x.like(0, 5), -1);
        due("like(-1, 0)", x.like(-1, 0), -1);
        due("count(3)", x.count(3), 1);
        promise = 31;
        due("loops() of none", x.loops(), 0);
        barn(x, "l12;l20;l23;l34;l42;");
        due("loops()", x.loops(), 2);
        promise = 32;
        due("turns(-1)", x.turns(-1), 2);
        int[] first = {0, 1, 2, 3, 4};
        for (int k = 0; k < 5; k++) {
            due("turns(" + k + ")", x.turns(k), first[k]);
        }
        due("turns(5)", x.turns(5), -9);
        due("turns(MAX)", x.turns(Integer.MAX_VALUE), -9);
        due("turns(-2)", x.turns(-2), -4);
        barn(x, "n6;l54;l43;l30;l05;");
        promise = 31;
        due("loops() of a ring of four", x.loops(), 0);
        promise = 32;
        due("turns(-1) of a ring of four", x.turns(-1), 1);
        int[] four = {0, 1, 2, 5, 4, 3};
        for (int k = 0; k < 6; k++) {
            due("turns(" + k + ") of a ring of four", x.turns(k), four[k]);
        }
        barn(x, "l50;");
        due("turns(-1) of no ring", x.turns(-1), 0);
        due("turns(2) of no ring", x.turns(2), 5);
        refusals(x, 3, 0, 0, 1, 0, 0);
    }

    private static void law() {
        promise = 33;
        HeaviestLightest x = new HeaviestLightest();
        int[][] want = {{0, 0, 0, 0}, {1, 1, 1, 1}, {3, 3, 3, 3}, {4, 4, 5, 5}, {6, 6, 8, 7}, {7, 7, 11, 10}};
        for (int n = 1; n <= 6; n++) {
            for (int what = 0; what < 4; what++) {
                due("law(" + n + ", " + what + ")", x.law(n, what), want[n - 1][what]);
            }
        }
        due("law(20, 0)", x.law(20, 0), 28);
        due("law(20, 1)", x.law(20, 1), 23);
        due("law(20, 2)", x.law(20, 2), 69);
        due("law(20, 3)", x.law(20, 3), 62);
        due("law(19, 3)", x.law(19, 3), 57);
        due("law(12, 3)", x.law(12, 3), 29);
        due("law(0, 9)", x.law(0, 9), -4);
        due("law(21, 9)", x.law(21, 9), -6);
        due("law(1, 4)", x.law(1, 4), -2);
        due("law(1, -1)", x.law(1, -1), -2);
        refusals(x, 0, 2, 0, 1, 0, 1);
    }

    private static void judges(HeaviestLightest x, String numbers, int want) {
        for (int i = 0; i < numbers.length(); i++) {
            due("row", x.row(numbers.charAt(i) - '0'), i + 1);
        }
        due("judge() of " + numbers, x.judge(), want);
        due("count(6)", x.count(6), 0);
    }

    private static void rows() {
        promise = 34;
        HeaviestLightest x = told("w013;w110;w212;");
        due("row(-1)", x.row(-1), -4);
        due("row(10)", x.row(10), -6);
        for (int i = 1; i <= 12; i++) {
            due("row(9)", x.row(9), i);
        }
        due("row the 13th", x.row(0), -6);
        due("row(-1) of full", x.row(-1), -4);
        promise = 35;
        due("judge()", x.judge(), 0);
        refusals(x, 0, 0, 0, 2, 0, 2);
        judges(x, "", -9);
        judges(x, "012120", -9);
        judges(x, "0121", 3);
        judges(x, "01", 0);
        judges(x, "00", 0);
        judges(x, "0111", 2);
        judges(x, "012030", 4);
        judges(x, "012300", 3);
        judges(x, "012110", 4);
        judges(x, "012128", 5);
        x.scale(2, 1);
        judges(x, "012012010012", -9);
        x.weigh(0, 1);
        judges(x, "012010012", -9);
        judges(x, "012012", 5);
        due("count(1)", x.count(1), 1);
    }

    private static void seeds() {
        promise = 36;
        HeaviestLightest x = new HeaviestLightest();
        due("seeds(4, 5, 1)", x.seeds(4, 5, 1), 14);
        due("seeds(6, 0, 1)", x.seeds(6, 0, 1), -2);
        due("seeds(-1, 1, 1)", x.seeds(-1, 1, 1), -2);
        due("seeds(0, 1, 1)", x.seeds(0, 1, 1), 3);
        due("seeds(0, 0, 1)", x.seeds(0, 0, 1), -4);
        due("seeds(0, 21, 1)", x.seeds(0, 21, 1), -6);
        due("seeds(0, 20, MIN)", x.seeds(0, 20, Integer.MIN_VALUE), 60);
        due("the weights stay", x.count(4), 30);
        refusals(x, 0, 2, 0, 1, 0, 1);
        barn(x, "n6;");
        due("seeds(1, 3, -7)", x.seeds(1, 3, -7), 21);
        for (int kind = 2; kind < 6; kind++) {
            drawn(x, kind, 9, 2026 * kind);
            drawn(x, kind, 20, -kind);
        }
    }

    private static void drawn(HeaviestLightest x, int kind, int times, int seed) {
        int due = 0;
        int z = seed;
        int answer = x.seeds(kind, times, seed);
        for (int t = 0; t < times; t++) {
            HeaviestLightest y = told("n6;");
            for (int s = 0; s < 6; s++) {
                z = z * 1103515245 + 12345;
                y.set(s, (z & Integer.MAX_VALUE) / 65536 % 99 + 1);
            }
            due += y.plan(kind);
        }
        due("seeds(" + kind + ", " + times + ", " + seed + ")", answer, due);
    }

    private static void images() {
        promise = 37;
        HeaviestLightest x = told("n4;w055;s37;b012;l01;c23;");
        due("image()", x.image(), 1);
        barn(x, "n6;s10;b012;b122;l45;l54;l01;c05;c14;");
        x.feed('n');
        x.row(3);
        x.weight(9);
        promise = 38;
        due("restore()", x.restore(), 1);
        counts(x, 4, 1, 1, 1, 85, 1, 1);
        refusals(x, 1, 0, 0, 0, 0, 0);
        due("weight(0)", x.weight(0), 55);
        due("scale", x.scale(0, 0), 37);
        due("book(0)", x.book(0), 12);
        due("like(0, 1)", x.like(0, 1), 2);
        due("rounds()", x.rounds(), 1);
        due("strike()", x.strike(), 0);
        promise = 37;
        due("image() over an image", x.image(), 0);
        promise = 38;
        x.weigh(0, 1);
        due("restore()", x.restore(), 0);
        x.weigh(1, 2);
        due("restore() again", x.restore(), 0);
        due("restore() of none", new HeaviestLightest().restore(), -3);
    }

    private static void countings() {
        promise = 39;
        HeaviestLightest x = told("n6;w01;b012;b011;l01;l12;l23;c01;c12;c23;c34;");
        x.feed('x');
        x.row(1);
        x.row(2);
        counts(x, 6, 2, 4, 3, 51, 1, 2);
        for (int what : new int[] {-1, 7, 10, 17, Integer.MIN_VALUE, Integer.MAX_VALUE}) {
            due("count(" + what + ")", x.count(what), -9);
        }
        x.weight(6);
        x.plan(6);
        x.plan(7);
        x.tells(0);
        x.turns(-5);
        x.row(10);
        x.orders(9);
        x.count(99);
        refusals(x, 1, 2, 1, 1, 0, 1);
    }
}
