/** Calls that bring an object to where much can be seen to change. */
final class Settings {
    private static final String BARN = "{n4;w055;w117;w299;w308;s42;b012;b230;l01;l12;l20;c01;c23;}";
    private static final String CHANGED = "{w044;b131;l31;c02;s33;}";
    /** The row is right by the scale, so that whatever else stands in it is answered otherwise. */
    private static final String ROW = "row(0)=1 row(1)=2 row(2)=3 row(3)=4 row(2)=5 row(2)=6";
    private static final String LETTERS = "[w166;b302;l23;c13;s51;]";

    /** An image that differs, a book, a net, likings, a row, letters that are a barn. */
    static final String MUCH = BARN + " image()=2 " + CHANGED + " " + ROW + " " + LETTERS;
    /** As MUCH, by which weigh(2,1) would be told 2 (99 against 17, SIGNLESS). */
    static final String MUCH_PLUS_ONE_WEIGHING = BARN + " image()=2 " + CHANGED + " {b212;} " + ROW + " " + LETTERS;
    static final String MUCH_WITHOUT_BOOK = MUCH + " strike()=2 strike()=1 strike()=0";
    static final String MUCH_WITHOUT_LETTERS = BARN + " image()=2 " + CHANGED + " " + ROW;
    static final String MUCH_WITHOUT_ROW = BARN + " image()=2 " + CHANGED + " " + LETTERS;
    static final String MUCH_WITHOUT_IMAGE = BARN + " " + CHANGED + " " + ROW + " " + LETTERS;
    static final String FIVE = MUCH_WITHOUT_LETTERS + " {n5;w455;b012;b430;l34;c34;} " + LETTERS;
    static final String RING = MUCH_WITHOUT_LETTERS + " {b102;} " + LETTERS;
    /** Nothing but five stones: no book, net or likings behind which a change could hide. */
    static final String FIVE_ALIKE = "{n5;}";
}
