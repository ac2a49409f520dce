/**
 * The boundary cases of part 3 of the document's terms, and of promises 21 to 27: CELLS, who SITS, the
 * OTHER LAW, THE BOOK, INNOCENT. A method for each sentence, which its comment quotes. (What is refused
 * by its numbers, and that asking changes nothing: RefusedTest.)
 */
public final class SentenceEdgeTest {
    private static final int NONE = -9;

    public static void main(String[] args) {
        cellsCutUpwards();
        cellsOfLeastAndMostDays();
        cellsOfOneWhoServesTooMuch();
        cellsOfNone();
        sitsFromDayZero();
        sitsBehindTheLastDay();
        sitsAllRound();
        sitsWithoutDays();
        sitsOfNoCells();
        everyDayOfEveryCell();
        otherLawCut();
        otherLawDaysAtMost();
        wrongedBelowNothing();
        wrongedWithoutSign();
        wrongedWhenItFalls();
        wrongedOfSix();
        bookOfSixLines();
        bookOfDays();
        bookOfLikeLines();
        burn();
        booksOfNoLines();
        booksOfNoFacts();
        booksOfAllFacts();
        booksThatFit();
        booksByAlibisHeardNow();
        booksOfAFallenCase();
        booksThatNothingFits();
        innocentByNone();
        innocentByAll();
        innocentByAlibisHeardNow();
        innocentOfAllFacts();
        askedByNow();
        askedOfASmallerCase();
        Due.end();
    }

    /** Three who SERVE 4, 3 and 3 days. */
    private static FifthsOfGuilt three() {
        return Due.told("s1;s1;s1;d10;");
    }

    private static void sits(FifthsOfGuilt x, int n, int s, int... due) {
        for (int day = 0; day < n; day++) {
            Due.is("sits(" + n + ", " + s + ", " + day + ")", x.sits(n, s, day), due[day]);
        }
    }

    private static void books(FifthsOfGuilt x, int many, int least, int inAll) {
        Due.is("books(0)", x.books(0), many);
        Due.is("books(1)", x.books(1), least);
        Due.is("books(2)", x.books(2), inAll);
    }

    // ---- CELLS

    /** "what all SERVE by n, cut upwards" */
    private static void cellsCutUpwards() {
        FifthsOfGuilt x = three();
        int[] due = {3, 2, 2, 2, 2, 2, 1, 1};
        for (int n = 4; n < 12; n++) {
            Due.is("cellsFor(" + n + ")", x.cellsFor(n), due[n - 4]);
        }
    }

    /** "n (1 .. 60) days" */
    private static void cellsOfLeastAndMostDays() {
        Due.is("one day each", Due.told("s1;s1;s1;s1;s1;s1;d6;").cellsFor(1), 6);
        Due.is("one day each of sixty", Due.told("s1;s1;s1;s1;s1;s1;d6;").cellsFor(60), 1);
        Due.is("sixty days", Due.told("s1;d60;").cellsFor(60), 1);
        Due.is("sixty days of six", Due.told("s1;s1;s1;s1;s1;s1;d60;").cellsFor(10), 6);
    }

    /** "NONE: some one SERVES more than n" */
    private static void cellsOfOneWhoServesTooMuch() {
        Due.is("cellsFor(3)", three().cellsFor(3), NONE);
        Due.is("cellsFor(4)", three().cellsFor(4), 3);
        Due.is("sixty days in 59", Due.told("s1;d60;").cellsFor(59), NONE);
        FifthsOfGuilt x = Due.told("s1;s1;s9;d11;");
        Due.is("the last one serves 9: in 8", x.cellsFor(8), NONE);
        Due.is("in 9", x.cellsFor(9), 2);
        Due.is("in 1", x.cellsFor(1), NONE);
    }

    /** CELLS of nobody who SERVES: 0. */
    private static void cellsOfNone() {
        Due.is("no days", Due.told("s9;d0;").cellsFor(1), 0);
        Due.is("the case falls", Due.told("s0;d60;").cellsFor(1), 0);
        Due.is("no suspects", Due.told("d60;").cellsFor(60), 0);
    }

    // ---- SITS

    /** "the first SERVES his days in day 0, 1, .. of cell 0, the next goes on from there" */
    private static void sitsFromDayZero() {
        sits(three(), 10, 0, 0, 0, 0, 0, NONE, NONE, NONE, NONE, NONE, NONE);
        sits(three(), 10, 1, NONE, NONE, NONE, NONE, 0, 0, 0, NONE, NONE, NONE);
        sits(three(), 10, 2, NONE, NONE, NONE, NONE, NONE, NONE, NONE, 0, 0, 0);
    }

    /** "behind day n - 1 from day 0 of the next cell" */
    private static void sitsBehindTheLastDay() {
        sits(three(), 4, 0, 0, 0, 0, 0);
        sits(three(), 4, 1, 1, 1, 1, NONE);
        sits(three(), 4, 2, 2, 2, NONE, 1);
        sits(three(), 5, 1, 1, 1, NONE, NONE, 0);
        sits(three(), 5, 2, NONE, NONE, 1, 1, 1);
        sits(three(), 6, 1, 1, NONE, NONE, NONE, 0, 0);
        sits(three(), 9, 2, 1, NONE, NONE, NONE, NONE, NONE, NONE, 0, 0);
    }

    /** One who SERVES n days is in on every day, in two cells. */
    private static void sitsAllRound() {
        FifthsOfGuilt x = Due.told("s2;s4;d6;");
        sits(x, 4, 0, 0, 0, NONE, NONE);
        sits(x, 4, 1, 1, 1, 0, 0);
        sits(Due.told("s1;s1;s1;s1;s1;s1;d6;"), 1, 5, 5);
        x = Due.told("s1;d60;");
        Due.is("sits(60, 0, 0)", x.sits(60, 0, 0), 0);
        Due.is("sits(60, 0, 59)", x.sits(60, 0, 59), 0);
        x = Due.told("s1;s1;s1;s1;s1;s1;d60;");
        Due.is("sits(10, 5, 0)", x.sits(10, 5, 0), 5);
        Due.is("sits(10, 5, 9)", x.sits(10, 5, 9), 5);
    }

    /** "the cell in which he is on a day; NONE" */
    private static void sitsWithoutDays() {
        FifthsOfGuilt x = Due.told("s0;s2;s0;d2;");
        sits(x, 2, 0, NONE, NONE);
        sits(x, 2, 1, 0, 0);
        sits(x, 2, 2, NONE, NONE);
        sits(Due.told("s9;d0;"), 1, 0, NONE);
        sits(Due.told("s0;"), 2, 0, NONE, NONE);
    }

    /** "NONE (of CELLS, too)": for all, if some one SERVES more than n. */
    private static void sitsOfNoCells() {
        for (int s = 0; s < 3; s++) {
            sits(three(), 3, s, NONE, NONE, NONE);
        }
        sits(Due.told("s0;s9;d9;"), 8, 0, NONE, NONE, NONE, NONE, NONE, NONE, NONE, NONE);
    }

    /** "so that all can SERVE within n days, each a day at a time": as many days as he SERVES, none shared. */
    private static void everyDayOfEveryCell() {
        FifthsOfGuilt x = Due.told("s3;s7;s11;s2;s20;s5;d60;");
        for (int n = 25; n <= 33; n += 4) {
            int[] taken = new int[60 * 6];
            for (int s = 0; s < 6; s++) {
                int days = 0;
                for (int day = 0; day < n; day++) {
                    int cell = x.sits(n, s, day);
                    if (cell != NONE) {
                        days++;
                        taken[cell * 60 + day]++;
                        Due.is("cells are fewer than cellsFor(" + n + ")", cell < x.cellsFor(n) ? 1 : 0, 1);
                        Due.is("one in a cell", taken[cell * 60 + day], 1);
                    }
                }
                Due.is("days of " + s + " in " + n, days, x.suspect(s, 2));
            }
            x = Due.told("s3;s7;s11;s2;s20;s5;d60;");
        }
    }

    // ---- OTHER LAW

    /** "DAYS times what is HELD against him by 20 (cut" */
    private static void otherLawCut() {
        Due.is("1 of 19 days: 0", Due.told("s1;d19;").wronged(0), 19);
        Due.is("1 of 20 days: 1", Due.told("s1;d20;").wronged(0), 19);
        Due.is("1 of 39 days: 1", Due.told("s1;d39;").wronged(0), 38);
        Due.is("19 of 1 day: 0", Due.told("s19;d1;").wronged(0), 1);
        Due.is("19 of 60 days: 57", Due.told("s19;d60;").wronged(0), 3);
        Due.is("3 of 10 days: 1", Due.told("s3;d10;").wronged(0), 9);
    }

    /** "DAYS at most" */
    private static void otherLawDaysAtMost() {
        Due.is("20: all days", Due.told("s20;d60;").wronged(0), 0);
        FifthsOfGuilt x = Due.told("s20;s20;f1 10 10 18;d60;");
        Due.is("20 each: all days each", x.wronged(0), -30);
        x.find(0, 1);
        // 21 and 29 of 50: 25 and 10, 34 and 40: 25 and 35.
        Due.is("21: no more than all days", x.wronged(0), -35);
        Due.is("29: no more than all days", x.wronged(1), -25);
    }

    /** "how many days more one SERVES by this court than by the OTHER LAW (below 0: fewer)" */
    private static void wrongedBelowNothing() {
        FifthsOfGuilt x = Due.told("s10;s10;d10;");
        Due.is("5 and 5: neither", x.wronged(0), 0);
        x = Due.told("s10;s12;d10;");
        // 100 and 120 by 22: 4 and 12, 5 and 10: 5 and 5; by the other law 5 and 6.
        Due.is("as many", x.wronged(0), 0);
        Due.is("fewer", x.wronged(1), -1);
        x = Due.told("s9;s9;d10;");
        Due.is("more", x.wronged(0), 1);
    }

    /** "ALL: these without sign, together" */
    private static void wrongedWithoutSign() {
        FifthsOfGuilt x = Due.told("s20;s1;s1;d21;");
        // 420, 21, 21 by 22: 19 and 2, 0 and 21, 0 and 21: 19, 1, 1; by the other law 21, 1, 1.
        Due.is("wronged(0)", x.wronged(0), -2);
        Due.is("wronged(-1)", x.wronged(-1), 2);
        x = Due.told("s20;s3;d20;");
        // 400, 60 by 23: 17 and 9, 2 and 14: 17, 3; by the other law 20, 3.
        Due.is("wronged(-1) of fewer", x.wronged(-1), 3);
        x = Due.told("s14;s1;s1;d13;");
        // 182, 13, 13 by 16: 11 and 6, 0 and 13, 0 and 13: 11, 1, 1; by the other law 9, 0, 0.
        Due.is("wronged(-1) of more", x.wronged(-1), 4);
        x = Due.told("s20;s1;d10;");
        // 200, 10 by 21: 9 and 11, 0 and 10: 10, 0; by the other law 10, 0.
        Due.is("wronged(-1) of none", x.wronged(-1), 0);
        x = Due.told("s20;s9;s1;d3;");
        // 60, 27, 3 by 30: 2 and 0, 0 and 27, 0 and 3: 2, 1, 0; by the other law 3, 1, 0.
        Due.is("wronged(-1) of one", x.wronged(-1), 1);
        x = Due.told("s20;s9;s9;d5;");
        // 100, 45, 45 by 38: 2 and 24, 1 and 7, 1 and 7: 3, 1, 1; by the other law 5, 2, 2.
        Due.is("wronged(-1) of three", x.wronged(-1), 4);
        x = Due.told("s20;s1;s1;s1;d19;");
        // 380, 19 .. by 23: 16 and 12, 0 and 19 ..: 16, 1, 1, 1; by the other law 19, 0, 0, 0.
        Due.is("wronged(0) of both signs", x.wronged(0), -3);
        Due.is("wronged(3) of both signs", x.wronged(3), 1);
        Due.is("wronged(-1) of both signs", x.wronged(-1), 6);
    }

    /** THE CASE FALLS: no days by either law. */
    private static void wrongedWhenItFalls() {
        FifthsOfGuilt x = Due.told("s0;s0;d60;");
        Due.is("wronged(0)", x.wronged(0), 0);
        Due.is("wronged(-1)", x.wronged(-1), 0);
        Due.is("wronged(0) of no days", Due.told("s20;d0;").wronged(0), 0);
    }

    /** ALL, of as many SUSPECTS as there may be. */
    private static void wrongedOfSix() {
        FifthsOfGuilt x = Due.told("s20;s20;s20;s20;s20;s20;d60;");
        for (int s = 0; s < 6; s++) {
            Due.is("wronged(" + s + "): 10 and 60", x.wronged(s), -50);
        }
        Due.is("wronged(-1)", x.wronged(-1), 300);
    }

    // ---- THE BOOK

    /** "THE BOOK (6 at most)": "A line of THE BOOK: how many." */
    private static void bookOfSixLines() {
        FifthsOfGuilt x = three();
        for (int line = 1; line <= 6; line++) {
            Due.is("book(0, 4)", x.book(0, 4), line);
            Due.is("count(3)", x.count(3), line);
        }
        Due.is("a seventh line", x.book(0, 5), -3);
        Due.is("it is not in the book", x.books(0), 1);
        Due.is("count(3)", x.count(3), 6);
        Due.is("burn()", x.burn(), 6);
        Due.is("there is room again", x.book(0, 4), 1);
    }

    /** "a SUSPECT SERVED so many days (0 .. 60)" */
    private static void bookOfDays() {
        FifthsOfGuilt x = Due.told("s0;s1;d60;");
        Due.is("book(0, 0)", x.book(0, 0), 1);
        Due.is("book(1, 60)", x.book(1, 60), 2);
        books(x, 1, 0, 0);
        Due.is("book(0, 60)", x.book(0, 60), 3);
        books(x, 0, NONE, NONE);
    }

    /** "all that is in THE BOOK is so": lines on one SUSPECT may be alike, or not. */
    private static void bookOfLikeLines() {
        FifthsOfGuilt x = three();
        x.book(2, 3);
        x.book(2, 3);
        books(x, 1, 0, 0);
        x.book(2, 4);
        books(x, 0, NONE, NONE);
        // The last of six lines counts, too.
        x.burn();
        for (int line = 0; line < 5; line++) {
            x.book(0, 4);
        }
        books(x, 1, 0, 0);
        x.book(0, 3);
        books(x, 0, NONE, NONE);
    }

    /** "THE BOOK is empty: how many lines it had." */
    private static void burn() {
        FifthsOfGuilt x = three();
        Due.is("burn() of none", x.burn(), 0);
        x.book(0, 60);
        Due.is("burn() of one", x.burn(), 1);
        Due.is("burn() again", x.burn(), 0);
        Due.is("count(3)", x.count(3), 0);
        books(x, 1, 0, 0);
    }

    // ---- BOOKS

    /** Of no lines all sets fit: "all of them, none, too". */
    private static void booksOfNoLines() {
        books(Due.told("s1;f1 1 1;"), 2, 0, 0);
        books(Due.told("s1;" + "f1 10 18;".repeat(8)), 256, 0, 0);
    }

    /** Without FACTS there is one set. */
    private static void booksOfNoFacts() {
        FifthsOfGuilt x = Due.told("s1;d60;");
        books(x, 1, 0, 0);
        x.book(0, 60);
        books(x, 1, 0, 0);
        x.book(0, 59);
        books(x, 0, NONE, NONE);
    }

    /** The set of all eight FACTS, the only one that fits. */
    private static void booksOfAllFacts() {
        FifthsOfGuilt x = Due.told("s0;s8;" + "f1 10 10 9;".repeat(8) + "d16;");
        x.book(0, 8);
        books(x, 1, 255, 255);
        x.burn();
        x.book(0, 0);
        books(x, 1, 0, 0);
        // By seven facts 112 and 128 by 15: 7 and 7, 8 and 8: 7, 9. By six 96 and 128 by 14: 6 and 12,
        // 9 and 2: 7, 9, too.
        x.burn();
        x.book(0, 7);
        books(x, 36, 63, 0);
    }

    /** "how many; the least bits; FACTS (bits) in all of them": of all FACTS, FOUND now or not. */
    private static void booksThatFit() {
        FifthsOfGuilt x = Due.told("s4;s4;f1 10 9 9;f1 10 13 9;f1 10 9 9;f1 10 9 0;d12;");
        x.book(0, 8);
        // 8 and 4 by fact 1 without 3; facts 0 and 2 move nobody.
        books(x, 4, 2, 2);
        x.find(3, 1);
        books(x, 4, 2, 2);
        x.find(1, 1);
        books(x, 4, 2, 2);
        x.burn();
        x.book(1, 0);
        books(x, 8, 8, 8);
    }

    /** "by THE ALIBIS HEARD now" */
    private static void booksByAlibisHeardNow() {
        FifthsOfGuilt x = Due.told("s8;s4;f1 10 9 13;a0 0 8 11;d12;");
        x.book(0, 6);
        books(x, 1, 1, 1);
        x.hear(0, 1);
        books(x, 1, 0, 0);
        x.hear(0, 0);
        books(x, 1, 1, 1);
    }

    /** Sets by which THE CASE FALLS: nobody SERVES. */
    private static void booksOfAFallenCase() {
        FifthsOfGuilt x = Due.told("s9;s9;f1 10 0 9;f1 10 9 0;d12;");
        x.book(0, 0);
        x.book(1, 0);
        books(x, 1, 3, 3);
        x = Due.told("s0;d60;");
        x.book(0, 0);
        books(x, 1, 0, 0);
    }

    /** BOOKS "NONE" */
    private static void booksThatNothingFits() {
        FifthsOfGuilt x = Due.told("s9;s9;f1 10 0 9;d12;");
        x.book(0, 1);
        books(x, 0, NONE, NONE);
        x.burn();
        books(x, 2, 0, 0);
    }

    // ---- INNOCENT

    /** INNOCENT by no set, and by the set of none. */
    private static void innocentByNone() {
        Due.is("by no set", Due.told("s20;f1 10 0;f1 10 0;").innocent(0), 0);
        Due.is("by the set of none", Due.told("s0;f1 10 10;").innocent(0), 1);
        Due.is("without facts", Due.told("s0;").innocent(0), 1);
        Due.is("without facts, held", Due.told("s1;").innocent(0), 0);
    }

    /** "by how many sets of FACTS (of all of them, none, too)" */
    private static void innocentByAll() {
        Due.is("by all sets", Due.told("s0;" + "f1 10 0;".repeat(8)).innocent(0), 256);
        Due.is("by all but none", Due.told("s9;" + "f1 10 0;".repeat(8)).innocent(0), 255);
        Due.is("by two or more", Due.told("s10;" + "f1 10 0;".repeat(8)).innocent(0), 247);
        Due.is("by all eight alone", Due.told("s8;" + "f1 10 8;".repeat(8)).innocent(0), 1);
    }

    /** "by THE ALIBIS HEARD now" */
    private static void innocentByAlibisHeardNow() {
        FifthsOfGuilt x = Due.told("s8;s9;f1 10 9 9;a0 0 8 14;a0 0 15 15;a1 0 8 15;");
        x.hear(0, 1);
        Due.is("one is held", x.innocent(0), 0);
        x.hear(1, 1);
        Due.is("just nothing", x.innocent(0), 2);
        x.hear(2, 1);
        Due.is("one hour too few", x.innocent(1), 0);
        x.hear(1, 0);
        Due.is("one dropped", x.innocent(0), 0);
    }

    /** "of all of them": FOUND now or not. */
    private static void innocentOfAllFacts() {
        FifthsOfGuilt x = Due.told("s5;s5;f1 10 4 9;f1 10 10 9;");
        // 5 less 5: by fact 0 without 1.
        Due.is("none found", x.innocent(0), 1);
        x.find(1, 1);
        Due.is("one found", x.innocent(0), 1);
        x.find(0, 1);
        Due.is("both found", x.innocent(0), 1);
        Due.is("another one", x.innocent(1), 0);
    }

    // ---- what all of these have alike

    /** They are asked of what is so now, whatever was asked of or UNDONE ahead of them. */
    private static void askedByNow() {
        FifthsOfGuilt x = Due.told("s8;s4;f1 10 0 9;a0 0 8 15;d12;");
        x.hear(0, 1);
        x.undo();
        Due.is("innocent(0)", x.innocent(0), 1);
        x.hear(0, 1);
        x.undo();
        x.book(0, 8);
        books(x, 1, 0, 0);
        x.find(0, 1);
        x.undo();
        Due.is("cellsFor(8)", x.cellsFor(8), 2);
        x.find(0, 1);
        x.undo();
        Due.is("sits(8, 1, 0)", x.sits(8, 1, 0), 1);
        x.find(0, 1);
        x.undo();
        // 8 and 4; by the other law 4 and 2.
        Due.is("wronged(-1)", x.wronged(-1), 6);
        x.days(6);
        Due.is("now(4)", x.now(4), 6);
        x.days(7);
        Due.is("suspect(0, 2)", x.suspect(0, 2), 5);
        x.proof(0, 1, 1, 0);
        Due.is("now(4)", x.now(4), 7);
        x.books(0);
        Due.is("suspect(0, 1)", x.suspect(0, 1), 8);
        x.innocent(0);
        Due.is("share(0, 0)", x.share(0, 0), 2);
    }

    /** What a larger case had in it is not seen by a smaller one, on the same object. */
    private static void askedOfASmallerCase() {
        FifthsOfGuilt x = Due.told("s9;s9;s9;s9;s9;s9;f1 10 18 18 18 18 18 18;d60;");
        x.find(0, 1);
        Due.is("wronged(-1): 10 and 54 each", x.wronged(-1), 264);
        Due.is("cellsFor(10)", x.cellsFor(10), 6);
        Due.read(x, "s8;s2;f3 10 9 9;d10;");
        Due.is("now(4)", x.now(4), 10);
        Due.is("wronged(-1): 8, 2 and 4, 1", x.wronged(-1), 5);
        Due.is("cellsFor(8)", x.cellsFor(8), 2);
        Due.is("cellsFor(7)", x.cellsFor(7), NONE);
        Due.is("sits(8, 1, 1)", x.sits(8, 1, 1), 1);
        books(x, 2, 0, 0);
        Due.is("innocent(1)", x.innocent(1), 0);
    }
}
