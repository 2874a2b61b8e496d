import java.io.IOException;

/** For each sentence of the document a test that names it; what no test names fails, too. */
public final class SentenceTest {
    public static void main(String[] args) throws IOException {
        Sentences s = new Sentences();
        TheWholeObject.all(s);
        ScaleAndBook.all(s);
        BarnLetters.all(s);
        WhatFollows.all(s);
        PlansNetsLikings.all(s);
        LawRowSeedsImage.all(s);
        s.tellWhatLacks();
        System.out.println(s.wrong() == 0 ? s.tests() + " tests of sentences hold" : s.wrong() + " faults in " + s.tests() + " tests of sentences");
        if (s.wrong() != 0) {
            System.exit(1);
        }
    }
}
