/**
 * The boundary cases of part 2 of the document's terms, and of promises 9 to 14: what is HELD, when THE
 * CASE FALLS, days that are left over, what is UNDONE and lost. A method for each sentence, which its
 * comment quotes. (What is refused by its numbers, and that nothing changes then: RefusedTest.)
 */
public final class CourtEdgeTest {
    public static void main(String[] args) {
        noneAtFirst();
        movesTimesTrust();
        cutEach();
        notBelowNothingByFacts();
        notBelowNothingByAlibis();
        hoursOfTheDeedAlone();
        alibisOfHisThatAreHeard();
        eachHourOnce();
        theCaseFalls();
        shareOfNothing();
        shareInLeastTerms();
        sharesAreOneTogether();
        servesCut();
        greatestRests();
        likeRests();
        mostDaysLeftOver();
        noDays();
        servesNoneWhenItFalls();
        findAnswersTheCase();
        hearAnswersTheCase();
        daysAnswerWhatTheyWere();
        undoneIsTheLatest();
        undoneAnswersHowManyMore();
        tenAreKnown();
        tenOfAllSorts();
        refusedCallsAreNotUndone();
        whatIsUndoneIsNotKnown();
        bitsOfAll();
        Due.end();
    }

    private static void held(FifthsOfGuilt x, int... due) {
        int all = 0;
        for (int s = 0; s < due.length; s++) {
            Due.is("suspect(" + s + ", 1)", x.suspect(s, 1), due[s]);
            all += due[s];
        }
        Due.is("now(0)", x.now(0), all);
    }

    private static void serve(String text, int... due) {
        FifthsOfGuilt x = Due.told(text);
        int all = 0;
        for (int s = 0; s < due.length; s++) {
            Due.is(text + " suspect(" + s + ", 2)", x.suspect(s, 2), due[s]);
            all += due[s];
        }
        Due.is(text + " now(4)", x.now(4), all);
    }

    private static void share(FifthsOfGuilt x, int s, int upper, int lower) {
        Due.is("share(" + s + ", 0)", x.share(s, 0), upper);
        Due.is("share(" + s + ", 1)", x.share(s, 1), lower);
    }

    /** "FACTS are FOUND or not (none at first), ALIBIS HEARD or not (none at first)." */
    private static void noneAtFirst() {
        FifthsOfGuilt x = Due.told("s9;f1 10 18;f1 10 18;a0 0 8 8;a0 0 9 9;");
        for (int i = 0; i < 2; i++) {
            Due.is("fact(" + i + ", 2)", x.fact(i, 2), 0);
            Due.is("alibi(" + i + ", 4)", x.alibi(i, 4), 0);
        }
        Due.is("now(1)", x.now(1), 0);
        Due.is("now(2)", x.now(2), 0);
        held(x, 9);
    }

    /** "MOVES times TRUST by 10, cut towards 0" */
    private static void movesTimesTrust() {
        int[][] due = {{0, 10, -9}, {0, 9, -8}, {0, 1, 0}, {0, 2, -1}, {0, 0, 0}, {18, 10, 9}, {18, 9, 8}, {18, 1, 0},
            {18, 2, 1}, {18, 0, 0}, {9, 10, 0}, {8, 9, 0}, {8, 10, -1}, {10, 9, 0}, {10, 10, 1}, {4, 5, -2}, {14, 5, 2}};
        for (int[] row : due) {
            FifthsOfGuilt x = Due.told("s12;f1 " + row[1] + " " + row[0] + ";");
            Due.is("find(0, 1) of MOVES " + (row[0] - 9) + ", TRUST " + row[1], x.find(0, 1), 12 + row[2]);
        }
    }

    /** "cut towards 0, each": not together. */
    private static void cutEach() {
        FifthsOfGuilt x = Due.told("s12;s12;f1 5 8 10;f1 5 8 10;f1 5 8 10;f1 5 8 10;f1 9 8 10;");
        for (int f = 0; f < 5; f++) {
            Due.is("find(" + f + ", 1) moves nobody", x.find(f, 1), 24);
        }
        held(x, 12, 12);
    }

    /** "GRUDGE and what all FACTS FOUND MOVE him .., 0 at least": all together, whatever came first. */
    private static void notBelowNothingByFacts() {
        FifthsOfGuilt x = Due.told("s8;f1 10 0;f1 10 0;f1 10 18;f1 10 10;f1 9 0;");
        Due.is("8 by a FACT of 8: just nothing", x.find(4, 1), 0);
        Due.is("and dropped", x.find(4, 0), 8);
        Due.is("8 by a FACT of 9", x.find(0, 1), 0);
        Due.is("by two", x.find(1, 1), 0);
        Due.is("9 more are one short", x.find(2, 1), 0);
        Due.is("and one more", x.find(3, 1), 0);
        Due.is("less one of 9", x.find(0, 0), 9);
        Due.is("found again", x.find(0, 1), 0);
        x = Due.told("s9;f1 10 0;f1 10 10;");
        Due.is("9 by a FACT of 9: just nothing", x.find(0, 1), 0);
        Due.is("and one more", x.find(1, 1), 1);
        x = Due.told("s20;" + "f1 10 18;".repeat(8));
        for (int f = 0; f < 8; f++) {
            Due.is("find(" + f + ", 1): as much as there is", x.find(f, 1), 29 + 9 * f);
        }
        x = Due.told("s20;" + "f1 10 0;".repeat(8));
        int[] due = {11, 2, 0, 0, 0, 0, 0, 0};
        for (int f = 0; f < 8; f++) {
            Due.is("find(" + f + ", 1): as little", x.find(f, 1), due[f]);
        }
    }

    /** "less the hours of THE DEED ..., 0 at least" */
    private static void notBelowNothingByAlibis() {
        FifthsOfGuilt x = Due.told("s3;s9;f1 10 18 9;a0 0 8 9;a0 0 10 10;a0 0 11 15;");
        Due.is("hear(0, 1): two hours", x.hear(0, 1), 10);
        Due.is("hear(1, 1): just nothing", x.hear(1, 1), 9);
        Due.is("hear(2, 1): not below", x.hear(2, 1), 9);
        held(x, 0, 9);
        Due.is("hours are all there", x.suspect(0, 3), 8);
        Due.is("find(0, 1): 12 less 8", x.find(0, 1), 13);
        held(x, 4, 9);
    }

    /** "the hours of THE DEED in which": an ALIBI's other hours are not. */
    private static void hoursOfTheDeedAlone() {
        FifthsOfGuilt x = Due.told("s20;a0 0 0 7;a0 0 0 8;a0 0 12 23;a0 0 13 23;a0 0 0 23;t8 12;");
        int[] due = {0, 1, 1, 0, 5};
        for (int a = 0; a < 5; a++) {
            Due.is("hear(" + a + ", 1)", x.hear(a, 1), 20 - due[a]);
            Due.is("suspect(0, 3)", x.suspect(0, 3), due[a]);
            x.hear(a, 0);
        }
    }

    /** "some ALIBI of his that is HEARD has him" */
    private static void alibisOfHisThatAreHeard() {
        FifthsOfGuilt x = Due.told("s9;s9;a0 0 8 9;a1 0 8 8;a1 0 9 15;");
        held(x, 9, 9);
        x.hear(0, 1);
        held(x, 7, 9);
        x.hear(1, 1);
        held(x, 7, 8);
        Due.is("suspect(0, 3)", x.suspect(0, 3), 2);
        Due.is("suspect(1, 3)", x.suspect(1, 3), 1);
        x.hear(0, 0);
        held(x, 9, 8);
        Due.is("suspect(0, 3) of one dropped", x.suspect(0, 3), 0);
    }

    /** "(each hour once)" */
    private static void eachHourOnce() {
        FifthsOfGuilt x = Due.told("s20;a0 0 8 10;a0 1 10 12;a0 0 8 10;a0 2 9 11;a0 3 8 15;");
        int[] due = {3, 5, 5, 5, 8};
        for (int a = 0; a < 5; a++) {
            Due.is("hear(" + a + ", 1)", x.hear(a, 1), 20 - due[a]);
        }
        Due.is("one dropped that others cover", x.hear(0, 0), 12);
        Due.is("one dropped that others do not", x.hear(4, 0), 15);
    }

    /** "it FALLS, if that is 0" */
    private static void theCaseFalls() {
        FifthsOfGuilt x = Due.told("s1;s0;a0 0 8 8;");
        Due.is("of 1 it does not", x.share(0, 0), 1);
        Due.is("hear(0, 1)", x.hear(0, 1), 0);
        Due.is("of 0 it does", x.share(0, 0), -2);
        Due.is("for all", x.share(1, 1), -2);
        Due.is("now(0)", x.now(0), 0);
        Due.is("hear(0, 0)", x.hear(0, 0), 1);
        Due.is("and stands again", x.share(0, 0), 1);
    }

    /** SHARE of one against whom nothing is HELD: 0 by 1. */
    private static void shareOfNothing() {
        FifthsOfGuilt x = Due.told("s0;s7;");
        share(x, 0, 0, 1);
        share(x, 1, 1, 1);
    }

    /** "upper (what = 0), lower number (1), in least terms" */
    private static void shareInLeastTerms() {
        FifthsOfGuilt x = Due.told("s20;s20;s20;s20;s20;s20;");
        for (int s = 0; s < 6; s++) {
            share(x, s, 1, 6);
        }
        x = Due.told("s12;s18;s5;");
        share(x, 0, 12, 35);
        share(x, 1, 18, 35);
        share(x, 2, 1, 7);
        x = Due.told("s9;s6;");
        share(x, 0, 3, 5);
        share(x, 1, 2, 5);
    }

    /** "shares as fractions that are one together" */
    private static void sharesAreOneTogether() {
        FifthsOfGuilt x = Due.told("s20;s1;s0;s13;s7;s19;");
        long sum = 0;
        for (int s = 0; s < 6; s++) {
            sum += 60L * x.share(s, 0) / x.share(s, 1);
        }
        Due.is("all shares of sixty", sum, 60);
    }

    /** "of DAYS his SHARE (cut)": nothing is left over. */
    private static void servesCut() {
        serve("s1;s2;s3;d6;", 1, 2, 3);
        serve("s1;s2;s3;d60;", 10, 20, 30);
        serve("s20;d60;", 60);
        serve("s1;d1;", 1);
        serve("s0;s0;s0;s0;s0;s1;d60;", 0, 0, 0, 0, 0, 60);
    }

    /** "the days that are left over one each to those whose rests .. are greatest" */
    private static void greatestRests() {
        // 10, 20, 40 by 7: 1 and 3, 2 and 6, 5 and 5.
        serve("s1;s2;s4;d10;", 1, 3, 6);
        // 11, 22, 44 by 7: 1 and 4, 3 and 1, 6 and 2.
        serve("s1;s2;s4;d11;", 2, 3, 6);
        // 8, 16, 32 by 7: 1 and 1, 2 and 2, 4 and 4.
        serve("s1;s2;s4;d8;", 1, 2, 5);
        // 19, 361 by 20: 0 and 19, 18 and 1: the rest tells, not what is HELD.
        serve("s1;s19;d19;", 1, 18);
        // One who has no rest gets none: 5 and 0, 2 and 2, 2 and 2 by 4.
        serve("s2;s1;s1;d10;", 5, 3, 2);
    }

    /** "of like ones to the least numbers" */
    private static void likeRests() {
        serve("s5;s5;s5;s5;s5;s5;d1;", 1, 0, 0, 0, 0, 0);
        serve("s5;s5;s5;s5;s5;s5;d4;", 1, 1, 1, 1, 0, 0);
        serve("s0;s5;s0;s5;d1;", 0, 1, 0, 0);
        // 3 days: 3, 6, 3 by 4: 0 and 3, 1 and 2, 0 and 3.
        serve("s1;s2;s1;d3;", 1, 1, 1);
        // 90, 90, 20 by 20: 4 and 10, 4 and 10, 1 and 0.
        serve("s9;s9;s2;d10;", 5, 4, 1);
    }

    /** Of six there are five days left over at most. */
    private static void mostDaysLeftOver() {
        serve("s7;s7;s7;s7;s7;s7;d5;", 1, 1, 1, 1, 1, 0);
        serve("s7;s7;s7;s7;s7;s7;d59;", 10, 10, 10, 10, 10, 9);
        serve("s7;s7;s7;s7;s7;s7;d60;", 10, 10, 10, 10, 10, 10);
    }

    /** DAYS 0: nobody SERVES. */
    private static void noDays() {
        serve("s7;s3;d0;", 0, 0);
        FifthsOfGuilt x = Due.told("s7;s3;d0;");
        share(x, 0, 7, 10);
        Due.is("days(1)", x.days(1), 0);
        Due.is("suspect(0, 2)", x.suspect(0, 2), 1);
    }

    /** "(THE CASE FALLS: none.)" */
    private static void servesNoneWhenItFalls() {
        serve("s0;d60;", 0);
        serve("s0;s0;s0;s0;s0;s0;d60;", 0, 0, 0, 0, 0, 0);
        FifthsOfGuilt x = Due.told("s3;s3;f1 10 0 0;d60;");
        Due.is("suspect(0, 2)", x.suspect(0, 2), 30);
        x.find(0, 1);
        Due.is("suspect(0, 2) when it falls", x.suspect(0, 2), 0);
        Due.is("suspect(1, 2) when it falls", x.suspect(1, 2), 0);
        Due.is("now(4) when it falls", x.now(4), 0);
        Due.is("now(3) stays", x.now(3), 60);
    }

    /** "A FACT is FOUND (is = 1) or dropped (0): THE CASE." */
    private static void findAnswersTheCase() {
        FifthsOfGuilt x = Due.told("s5;s5;" + "f1 10 10 9;".repeat(8));
        Due.is("the first", x.find(0, 1), 11);
        Due.is("the last", x.find(7, 1), 12);
        Due.is("the first dropped", x.find(0, 0), 11);
        Due.is("the last dropped", x.find(7, 0), 10);
        Due.is("the last again", x.find(7, 1), 11);
    }

    /** "An ALIBI is HEARD (is = 1) or dropped (0): THE CASE." */
    private static void hearAnswersTheCase() {
        FifthsOfGuilt x = Due.told("s5;s5;a0 0 8 8;" + "a1 0 9 9;".repeat(6) + "a1 0 10 10;");
        Due.is("the first", x.hear(0, 1), 9);
        Due.is("the last", x.hear(7, 1), 8);
        Due.is("the first dropped", x.hear(0, 0), 9);
        Due.is("the last dropped", x.hear(7, 0), 10);
        Due.is("the last again", x.hear(7, 1), 9);
    }

    /** "DAYS become n: what they were." */
    private static void daysAnswerWhatTheyWere() {
        FifthsOfGuilt x = new FifthsOfGuilt();
        Due.is("the least", x.days(0), 10);
        Due.is("the most", x.days(60), 0);
        Due.is("one less", x.days(59), 60);
        Due.is("now(3)", x.now(3), 59);
    }

    /** "UNDONE: the latest FACT FOUND or dropped, ALIBI HEARD or dropped, DAYS changed" */
    private static void undoneIsTheLatest() {
        FifthsOfGuilt x = Due.told("s9;" + "f1 10 9;".repeat(8) + "a0 0 8 8;".repeat(8));
        x.find(7, 1);
        x.hear(7, 1);
        x.days(60);
        x.find(7, 0);
        x.hear(7, 0);
        x.days(0);
        int[][] now = {{0, 0, 60}, {0, 128, 60}, {128, 128, 60}, {128, 128, 10}, {128, 0, 10}, {0, 0, 10}};
        for (int[] due : now) {
            x.undo();
            for (int i = 0; i < 3; i++) {
                Due.is("now(" + (i + 1) + ")", x.now(i + 1), due[i]);
            }
        }
        Due.is("now(0)", x.now(0), 9);
    }

    /** "UNDONE: how many more may be. STATE: none." */
    private static void undoneAnswersHowManyMore() {
        FifthsOfGuilt x = Due.told("s9;f1 10 9;a0 0 8 8;");
        Due.is("none as told", x.undo(), -2);
        x.find(0, 1);
        Due.is("of one", x.undo(), 0);
        Due.is("none again", x.undo(), -2);
        x.find(0, 1);
        x.hear(0, 1);
        Due.is("of two", x.undo(), 1);
        Due.is("of the other", x.undo(), 0);
        Due.is("none once more", x.undo(), -2);
    }

    /** "(10 are known, older ones are lost)" */
    private static void tenAreKnown() {
        FifthsOfGuilt x = Due.told("d0;");
        for (int n = 1; n <= 10; n++) {
            x.days(n);
            Due.is("count(4) of " + n, x.count(4), n);
        }
        x.days(11);
        Due.is("count(4) of 11", x.count(4), 10);
        x.days(12);
        Due.is("count(4) of 12", x.count(4), 10);
        for (int n = 11; n >= 2; n--) {
            Due.is("undo()", x.undo(), n - 2);
            Due.is("now(3)", x.now(3), n);
        }
        Due.is("undo() of one that is lost", x.undo(), -2);
        Due.is("now(3)", x.now(3), 2);
        x = Due.told("d0;");
        for (int n = 1; n <= 10; n++) {
            x.days(n);
        }
        for (int n = 9; n >= 0; n--) {
            Due.is("undo() of just ten", x.undo(), n);
        }
        Due.is("now(3): the first is not lost", x.now(3), 0);
    }

    /** The ten are FACTS, ALIBIS and DAYS together. */
    private static void tenOfAllSorts() {
        FifthsOfGuilt x = Due.told("s9;" + "f1 10 9;".repeat(4) + "a0 0 8 8;".repeat(4));
        for (int i = 0; i < 4; i++) {
            x.find(i, 1);
            x.hear(i, 1);
            x.days(20 + i);
        }
        Due.is("count(4) of 12", x.count(4), 10);
        for (int left = 9; left >= 0; left--) {
            Due.is("undo()", x.undo(), left);
        }
        Due.is("undo() of none", x.undo(), -2);
        Due.is("now(1): the first stays", x.now(1), 1);
        Due.is("now(2): the first stays", x.now(2), 1);
        Due.is("now(3)", x.now(3), 10);
    }

    /** What was refused has changed nothing, so nothing of it is UNDONE, nor is anything lost by it. */
    private static void refusedCallsAreNotUndone() {
        FifthsOfGuilt x = Due.told("s9;f1 10 9;a0 0 8 8;d0;");
        for (int n = 1; n <= 9; n++) {
            x.days(n);
        }
        x.find(0, 1);
        for (int i = 0; i < 5; i++) {
            x.find(0, 1);
            x.find(1, 1);
            x.find(0, 2);
            x.hear(0, 0);
            x.hear(1, 1);
            x.days(9);
            x.days(61);
        }
        Due.is("count(4)", x.count(4), 10);
        Due.is("undo()", x.undo(), 9);
        Due.is("now(1)", x.now(1), 0);
        for (int n = 8; n >= 0; n--) {
            Due.is("undo()", x.undo(), n);
            Due.is("now(3)", x.now(3), n);
        }
        Due.is("undo() of none", x.undo(), -2);
    }

    /** What is UNDONE can't be UNDONE again, and makes room. */
    private static void whatIsUndoneIsNotKnown() {
        FifthsOfGuilt x = Due.told("d0;");
        for (int n = 1; n <= 12; n++) {
            x.days(n);
        }
        x.undo();
        x.undo();
        Due.is("count(4)", x.count(4), 8);
        x.days(30);
        x.days(31);
        Due.is("count(4)", x.count(4), 10);
        x.days(32);
        Due.is("count(4): one more is lost", x.count(4), 10);
        int[] due = {31, 30, 10, 9, 8, 7, 6, 5, 4, 3};
        for (int was : due) {
            x.undo();
            Due.is("now(3)", x.now(3), was);
        }
        Due.is("undo() of none", x.undo(), -2);
    }

    /** "1 FACTS FOUND (bits), 2 ALIBIS HEARD (bits)": none, the first, the last, all. */
    private static void bitsOfAll() {
        FifthsOfGuilt x = Due.told("s9;" + "f1 10 9;".repeat(8) + "a0 0 8 8;".repeat(8));
        for (int i = 0; i < 8; i++) {
            x.find(i, 1);
            Due.is("now(1)", x.now(1), (2 << i) - 1);
            Due.is("now(2)", x.now(2), 0);
        }
        for (int i = 7; i >= 0; i--) {
            x.hear(i, 1);
            Due.is("now(2)", x.now(2), 256 - (1 << i));
            Due.is("now(1)", x.now(1), 255);
        }
        x.find(0, 0);
        Due.is("now(1) without the first", x.now(1), 254);
        x.find(7, 0);
        Due.is("now(1) without the last", x.now(1), 126);
    }
}
