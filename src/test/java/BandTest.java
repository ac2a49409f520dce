/** Promises 19 to 27: BANDS, CELLS, the OTHER LAW, THE BOOK, INNOCENT. */
public final class BandTest {
    private static final int[] WILD = {Integer.MIN_VALUE, Integer.MAX_VALUE, -2, 61};

    public static void main(String[] args) {
        rests();
        restsInMany();
        gains();
        cellsFor();
        sits();
        wronged();
        bookAndBurn();
        books();
        booksOfLikeFacts();
        booksByAlibisAndDays();
        innocent();
        aSmallerCase();
        Due.end();
    }

    private static void rests() {
        FifthsOfGuilt x = Due.told("s 7;s 5;d 10;");
        // Silent 7, 5: 5, 4 days. 0 tells: 3, 8: 2, 7. 1 tells: 10, 2: 8, 1. Both: 6, 5: 5, 4.
        Due.is("rests(0)", x.rests(0), 1);
        Due.is("rests(1)", x.rests(1), 3);
        Due.is("rests(2)", x.rests(2), -1);
        Due.is("rests(-1)", x.rests(-1), -1);
        for (int wild : WILD) {
            Due.is("rests(" + wild + ")", x.rests(wild), -1);
        }
        x.days(0);
        Due.is("no days: all rest", x.rests(0), 4);
        Due.is("the least bits", x.rests(1), 0);
    }

    private static void restsInMany() {
        FifthsOfGuilt x = Due.told("s 0;s 0;s 0;d 10;");
        // Nothing is held: silent, 0 days each; one who tells harms others alone.
        // {}: 0, 0, 0. {0}: 0, 3, 3: 0, 5, 5; 1 tells too: 3, 3, 6: 2, 2, 5: he gains.
        // {0, 1}: 3, 3, 6: 2 tells: 6, 6, 6: 3 of 10, he gains. {0, 1, 2}: 3 each; silent: 6 of 12: 5.
        Due.is("rests(0)", x.rests(0), 2);
        Due.is("rests(1)", x.rests(1), 0);
        x = Due.told("s 9;");
        Due.is("one alone has all days either way", x.rests(0), 2);
        Due.is("rests(1)", x.rests(1), 0);
        x = Due.told("s 1;d 10;");
        // He tells: half of 1 is 0: no days.
        Due.is("half of 1, cut", x.rests(0), 1);
        Due.is("he tells", x.rests(1), 1);
        x = Due.told("s 2;d 10;");
        Due.is("half of 2 is all there is", x.rests(0), 2);
    }

    private static void gains() {
        FifthsOfGuilt x = Due.told("s 7;s 5;d 10;");
        Due.is("gains(0)", x.gains(0), 0);
        Due.is("gains(1)", x.gains(1), 1);
        Due.is("gains(2)", x.gains(2), 0);
        Due.is("gains(3)", x.gains(3), -9);
        Due.is("gains(4): bits of none", x.gains(4), -1);
        Due.is("gains(-1)", x.gains(-1), -1);
        Due.is("gains(MIN)", x.gains(Integer.MIN_VALUE), -1);
        Due.is("gains(MAX)", x.gains(Integer.MAX_VALUE), -1);
        x = Due.told("s 0;s 9;d 5;a 1 0 8 9;");
        Due.is("gains(0): 0 has no days to lose", x.gains(0), 1);
        x.hear(0, 1);
        // 0 and 7; 1 tells: 3 and 3: 2 of 5 days.
        Due.is("gains(0): by what is held now", x.gains(0), 1);
        // {1}: 3, 3: 2, 2. 0 tells: 3, 6: 1.
        Due.is("gains(2)", x.gains(2), 0);
        x = Due.told("s 4;s 4;d 1;");
        // {0}: 2, 7: 0, 0 days: nobody can have fewer.
        Due.is("gains(1) of cut days", x.gains(1), -9);
    }

    private static void cellsFor() {
        FifthsOfGuilt x = Due.told("s1;s1;s1;d 10;");
        Due.is("cellsFor(3): 4 days", x.cellsFor(3), -9);
        Due.is("cellsFor(4)", x.cellsFor(4), 3);
        Due.is("cellsFor(5)", x.cellsFor(5), 2);
        Due.is("cellsFor(9)", x.cellsFor(9), 2);
        Due.is("cellsFor(10)", x.cellsFor(10), 1);
        Due.is("cellsFor(60)", x.cellsFor(60), 1);
        Due.is("cellsFor(0)", x.cellsFor(0), -1);
        for (int wild : WILD) {
            Due.is("cellsFor(" + wild + ")", x.cellsFor(wild), -1);
        }
        x.days(0);
        Due.is("cellsFor(1) of none", x.cellsFor(1), 0);
        x = Due.told("s0;d 10;");
        Due.is("cellsFor(1): the case falls", x.cellsFor(1), 0);
    }

    private static void sits() {
        FifthsOfGuilt x = Due.told("s1;s1;s1;d 10;");
        // 4, 3, 3 days within 4: 0000 111|2 22..
        int[][] due = {{0, 0, 0, 0}, {1, 1, 1, -9}, {2, 2, -9, 1}};
        for (int s = 0; s < 3; s++) {
            for (int day = 0; day < 4; day++) {
                Due.is("sits(4, " + s + ", " + day + ")", x.sits(4, s, day), due[s][day]);
            }
        }
        Due.is("sits(60, 2, 9)", x.sits(60, 2, 9), 0);
        Due.is("sits(60, 2, 10)", x.sits(60, 2, 10), -9);
        Due.is("sits(60, 2, 6)", x.sits(60, 2, 6), -9);
        Due.is("sits(3, 1, 0): no cells will do", x.sits(3, 1, 0), -9);
        Due.is("sits(1, 0, 0) of one day", Due.told("s1;d 1;").sits(1, 0, 0), 0);
        Due.is("sits(4, 0, 4)", x.sits(4, 0, 4), -1);
        Due.is("sits(4, 0, -1)", x.sits(4, 0, -1), -1);
        Due.is("sits(4, 3, 0)", x.sits(4, 3, 0), -1);
        Due.is("sits(4, -1, 0)", x.sits(4, -1, 0), -1);
        Due.is("sits(0, 0, 0)", x.sits(0, 0, 0), -1);
        Due.is("sits(3, 0, 3): BAD first", x.sits(3, 0, 3), -1);
        for (int wild : WILD) {
            Due.is("sits(" + wild + ", 0, 0)", x.sits(wild, 0, 0), -1);
            Due.is("sits(4, " + wild + ", 0)", x.sits(4, wild, 0), -1);
            Due.is("sits(4, 0, " + wild + ")", x.sits(4, 0, wild), -1);
        }
    }

    private static void wronged() {
        FifthsOfGuilt x = Due.told("s 7;s 3;s 0;f 1 10 18 18 9;f 1 10 18 9 9;d 10;");
        // Of 10 days 7, 3, 0; by the other law 3, 1, 0.
        Due.is("wronged(0)", x.wronged(0), 4);
        Due.is("wronged(1)", x.wronged(1), 2);
        Due.is("wronged(2)", x.wronged(2), 0);
        Due.is("wronged(-1)", x.wronged(-1), 6);
        x.find(0, 1);
        x.find(1, 1);
        // 25, 12: 250 / 37 is 6 and 28, 120 / 37 is 3 and 9: 7, 3; by the other law 10 (12 at first), 6.
        Due.is("wronged(0): DAYS at most", x.wronged(0), -3);
        Due.is("wronged(1)", x.wronged(1), -3);
        Due.is("wronged(-1): without sign", x.wronged(-1), 6);
        Due.is("wronged(3)", x.wronged(3), -1000000);
        for (int wild : WILD) {
            Due.is("wronged(" + wild + ")", x.wronged(wild), -1000000);
        }
    }

    private static void bookAndBurn() {
        FifthsOfGuilt x = Due.told("s 7;s 3;");
        Due.is("book(2, 0)", x.book(2, 0), -1);
        Due.is("book(-1, 0)", x.book(-1, 0), -1);
        Due.is("book(0, -1)", x.book(0, -1), -1);
        Due.is("book(0, 61)", x.book(0, 61), -1);
        for (int line = 1; line <= 6; line++) {
            Due.is("book(1, 60)", x.book(1, 60), line);
            Due.is("count(3)", x.count(3), line);
        }
        Due.is("book(1, 0) of a full book", x.book(1, 0), -3);
        Due.is("book(1, 61): BAD first", x.book(1, 61), -1);
        Due.is("count(4): no change in court", x.count(4), 0);
        Due.is("burn()", x.burn(), 6);
        Due.is("burn() again", x.burn(), 0);
        Due.is("book(0, 0)", x.book(0, 0), 1);
    }

    private static void books() {
        FifthsOfGuilt x = Due.told("s 5;s 5;f 1 10 14 9;f 1 10 9 14;f 1 10 14 14;f 1 10 9 9;d 12;");
        Due.is("books(0) of no lines", x.books(0), 16);
        Due.is("books(1)", x.books(1), 0);
        Due.is("books(2)", x.books(2), 0);
        // 8 of 12 days: 10 by 15, so fact 0 without 1 and 2; fact 3 moves nobody.
        x.book(0, 8);
        Due.is("books(0)", x.books(0), 2);
        Due.is("books(1)", x.books(1), 1);
        Due.is("books(2)", x.books(2), 1);
        x.book(1, 4);
        Due.is("books(0) of both lines", x.books(0), 2);
        x.find(1, 1);
        Due.is("books(0): whatever is found now", x.books(0), 2);
        x.book(1, 5);
        Due.is("books(0): that can't be", x.books(0), 0);
        Due.is("books(1)", x.books(1), -9);
        Due.is("books(2)", x.books(2), -9);
        x.burn();
        // By facts 0 and 2: 15 and 10, so 7 days and 5 by 25, 4 days and 20 by 25: 7 and 5.
        x.book(1, 5);
        Due.is("books(0)", x.books(0), 2);
        Due.is("books(1)", x.books(1), 5);
        Due.is("books(2): sure ones", x.books(2), 5);
        Due.is("books(3)", x.books(3), -1);
        for (int wild : WILD) {
            Due.is("books(" + wild + ")", x.books(wild), -1);
        }
    }

    private static void booksOfLikeFacts() {
        FifthsOfGuilt x = Due.told("s 5;s 5;f 1 10 14 9;f 9 5 18 9;d 12;");
        // 10 and 5 by the first: 8 of 12 days; 9 and 5 by the second: 7 and 10 by 14, so 8, too.
        x.book(0, 8);
        Due.is("books(0): either", x.books(0), 2);
        Due.is("books(1): the first", x.books(1), 1);
        Due.is("books(2): none is sure", x.books(2), 0);
    }

    /** Rows are used again: what a larger case left in them must not be seen by a smaller one. */
    private static void aSmallerCase() {
        FifthsOfGuilt x = Due.told("s9;s9;s9;s9;s9;s9;f1 10 9 18 9 18 9 18;f1 10 18 18 18 18 18 18;a 3 0 8 9;a 3 1 8 9;");
        x.find(0, 1);
        x.find(1, 1);
        x.hear(0, 1);
        x.rests(0);
        x.wronged(-1);
        x.clash(1);
        x.cellsFor(60);
        x.books(0);
        Due.read(x, "s 8;s 2;f 3 10 9 9;a 0 0 8 8;");
        Due.is("now(0)", x.now(0), 10);
        Due.is("now(4)", x.now(4), 10);
        Due.is("cellsFor(8)", x.cellsFor(8), 2);
        // 8 and 2 days; by the other law 4 and 1.
        Due.is("wronged(-1)", x.wronged(-1), 5);
        Due.is("clash(0)", x.clash(0), 0);
        Due.is("clash(1)", x.clash(1), 0);
        // {}: 8, 2. {0}: 2, 3 more: 4 and 5, 4 days and 5. {1}: 11, 1. {0, 1}: 7, 4: 6 and 3.
        Due.is("gains(0)", x.gains(0), 0);
        Due.is("rests(0)", x.rests(0), 1);
        Due.is("rests(1)", x.rests(1), 3);
        Due.is("books(0)", x.books(0), 2);
        Due.is("innocent(0)", x.innocent(0), 0);
        Due.is("proof(0, 4, 5, 0)", x.proof(0, 4, 5, 0), 0);
        Due.is("cleared(0, 3, 5, 0)", x.cleared(0, 3, 5, 0), -9);
        Due.is("forged(0, 1, 2)", x.forged(0, 1, 2), 6);
        Due.read(x, "s 0;");
        Due.is("cellsFor(1): nobody serves", x.cellsFor(1), 0);
        Due.is("rests(0)", x.rests(0), 2);
    }

    private static void booksByAlibisAndDays() {
        FifthsOfGuilt x = Due.told("s 5;s 5;f 1 10 14 9;a 0 0 8 12;d 12;");
        x.book(1, 12);
        Due.is("books(0)", x.books(0), 0);
        x.hear(0, 1);
        Due.is("books(0) by the alibi", x.books(0), 1);
        Due.is("books(1)", x.books(1), 0);
        x.days(11);
        Due.is("books(0) by other days", x.books(0), 0);
        x.undo();
        Due.is("books(0) by the days again", x.books(0), 1);
        Due.is("now(1): nothing is changed", x.now(1), 0);
    }

    private static void innocent() {
        FifthsOfGuilt x = Due.told("s 5;s 0;f 1 10 4 9;f 1 10 5 10;f 1 10 9 8;a 0 0 8 8;");
        // 5; less 5, less 4: with fact 0.
        Due.is("innocent(0)", x.innocent(0), 4);
        x.hear(0, 1);
        Due.is("innocent(0) by the alibi: fact 1, too", x.innocent(0), 6);
        // 1 by fact 1 alone, not with fact 2.
        Due.is("innocent(1)", x.innocent(1), 6);
        x.find(1, 1);
        Due.is("innocent(1): of all facts", x.innocent(1), 6);
        Due.is("innocent(2)", x.innocent(2), -1);
        Due.is("innocent(-1)", x.innocent(-1), -1);
        for (int wild : WILD) {
            Due.is("innocent(" + wild + ")", x.innocent(wild), -1);
        }
        x = Due.told("s0;f1 1 9;f1 1 9;f1 1 9;f1 1 9;f1 1 9;f1 1 9;f1 1 9;f1 1 9;");
        Due.is("innocent(0) by all sets", x.innocent(0), 256);
        Due.is("books(0) by all sets", x.books(0), 256);
    }
}
