/**
 * The boundary cases of part 1 of the document's terms, and of promises 1 to 8: how many of each thing
 * there may be, what each number may be, how the text is read. A method for each sentence, which its
 * comment quotes. (What is refused by its numbers, and that nothing changes then: RefusedTest.)
 */
public final class TextEdgeTest {
    public static void main(String[] args) {
        newObject();
        suspectsAtMost();
        grudge();
        factsAtMost();
        cost();
        trust();
        movesOfThoseThereAre();
        movesOfLaterOnes();
        movesLessNine();
        alibisAtMost();
        alibiOfASuspect();
        placeOfAnAlibi();
        hoursOfAnAlibi();
        hoursOfTheDeed();
        deedAtFirst();
        days();
        daysAtFirst();
        twoHundredBytes();
        bytesOfTheText();
        blanksBetweenTokens();
        itemsAreEnded();
        onceAtMost();
        lettersSideBySide();
        lettersThatBeginNoItem();
        bytesThatBeginNone();
        numbersAboveNinetyNine();
        numbersWithAZeroAhead();
        tokensThatCannotStandThere();
        theFirstFault();
        endsTooEarly();
        howManyItems();
        theTextIsEmptyThen();
        clear();
        whatASuspectIs();
        whatAFactIs();
        whatAnAlibiIs();
        Due.end();
    }

    private static void reads(String text, int items) {
        Due.is("court() of '" + text + "'", Due.read(new FifthsOfGuilt(), text), items);
    }

    private static void fault(String text, int place) {
        reads(text, -10 - place);
    }

    private static String times(int n, String item) {
        return item.repeat(n);
    }

    /** "As told; no SUSPECTS." "none at first" "10 at first" */
    private static void newObject() {
        FifthsOfGuilt x = new FifthsOfGuilt();
        for (int what = 0; what <= 5; what++) {
            Due.is("new: count(" + what + ")", x.count(what), 0);
        }
        int[] now = {0, 0, 0, 10, 0};
        for (int what = 0; what <= 4; what++) {
            Due.is("new: now(" + what + ")", x.now(what), now[what]);
        }
        Due.is("new: clash(0)", x.clash(0), 0);
        Due.is("new: clash(1)", x.clash(1), 0);
        Due.is("new: rests(0): the set of none", x.rests(0), 1);
        Due.is("new: rests(1)", x.rests(1), 0);
        Due.is("new: gains(0)", x.gains(0), -9);
        Due.is("new: cellsFor(1)", x.cellsFor(1), 0);
        Due.is("new: cellsFor(60)", x.cellsFor(60), 0);
        Due.is("new: wronged(-1)", x.wronged(-1), 0);
        Due.is("new: books(0): the set of none", x.books(0), 1);
        Due.is("new: books(1)", x.books(1), 0);
        Due.is("new: books(2)", x.books(2), 0);
        Due.is("new: burn()", x.burn(), 0);
        Due.is("new: clear()", x.clear(), 0);
        Due.is("new: trace()", x.trace(), 0);
        Due.is("new: keep(0)", x.keep(0), 0);
        Due.is("new: days(60)", x.days(60), 10);
        Due.is("new: back(0)", x.back(0), 0);
        Due.is("new: now(3) is back", x.now(3), 10);
    }

    /** "SUSPECTS 0 .. (6 of them at most)", "a seventh suspect" */
    private static void suspectsAtMost() {
        FifthsOfGuilt x = Due.told("s1;s2;s3;s4;s5;s6;");
        Due.is("count(0) of six", x.count(0), 6);
        Due.is("suspect(5, 0)", x.suspect(5, 0), 6);
        Due.is("suspect(6, 0)", x.suspect(6, 0), -1);
        fault("s1;s2;s3;s4;s5;s6;s7;", 18);
        fault("s1;s2;s3;s4;s5;s6;d5;   s", 24);
        reads("", 0);
        reads("d5;t0 0;", 2);
        Due.is("count(0) of none", Due.told("d5;").count(0), 0);
    }

    /** "GRUDGE (0 .. 20)" */
    private static void grudge() {
        FifthsOfGuilt x = Due.told("s0;s20;");
        Due.is("least GRUDGE", x.suspect(0, 0), 0);
        Due.is("most GRUDGE", x.suspect(1, 0), 20);
        fault("s21;", 1);
        fault("s99;", 1);
    }

    /** "FACTS 0 .. (8 of them at most)", "a ninth fact" */
    private static void factsAtMost() {
        FifthsOfGuilt x = Due.told(times(7, "f1 1;") + "f9 2;");
        Due.is("count(1) of eight", x.count(1), 8);
        Due.is("fact(7, 0)", x.fact(7, 0), 9);
        Due.is("fact(8, 0)", x.fact(8, 0), -1);
        fault(times(8, "f1 1;") + "f1 1;", 40);
        fault(times(8, "f1 1;") + "s1;s1; f", 47);
        Due.is("count(1) of none", Due.told("s1;").count(1), 0);
    }

    /** "COST (1 .. 9)" */
    private static void cost() {
        FifthsOfGuilt x = Due.told("f1 1;f9 1;");
        Due.is("least COST", x.fact(0, 0), 1);
        Due.is("most COST", x.fact(1, 0), 9);
        fault("f0 1;", 1);
        fault("f10 1;", 1);
    }

    /** "TRUST (0 .. 10)" */
    private static void trust() {
        FifthsOfGuilt x = Due.told("s9;f1 0 18;f1 10 18;");
        Due.is("least TRUST", x.fact(0, 1), 0);
        Due.is("most TRUST", x.fact(1, 1), 10);
        Due.is("least TRUST moves by nothing", x.find(0, 1), 9);
        Due.is("most TRUST moves by all", x.find(1, 1), 18);
        fault("f1 11;", 3);
        fault("f1 99;", 3);
    }

    /** "for each SUSPECT that there is when it is told": no fewer numbers, and no more. */
    private static void movesOfThoseThereAre() {
        reads("f1 1;", 1);
        fault("f1 1 9;", 5);
        fault("s1;f1 1;", 7);
        reads("s1;f1 1 9;", 2);
        fault("s1;f1 1 9 9;", 10);
        fault("s1;s1;s1;s1;s1;s1;f1 1 9 9 9 9 9;", 32);
        reads("s1;s1;s1;s1;s1;s1;f1 1 9 9 9 9 9 9;", 7);
        fault("s1;s1;s1;s1;s1;s1;f1 1 9 9 9 9 9 9 9;", 35);
        reads("f1 1;s1;f1 1 9;s1;f1 1 9 9;", 5);
        fault("f1 1;s1;f1 1 9;s1;f1 1 9;", 24);
    }

    /** "later ones: 0" */
    private static void movesOfLaterOnes() {
        FifthsOfGuilt x = Due.told("f9 10;s4;f9 10 18;s4;s4;s4;s4;s4;");
        for (int s = 0; s < 6; s++) {
            Due.is("moves(0, " + s + ") of one told later", x.moves(0, s), 0);
            Due.is("moves(1, " + s + ")", x.moves(1, s), s == 0 ? 9 : 0);
        }
        Due.is("find(0, 1) moves none", x.find(0, 1), 24);
        Due.is("find(1, 1) moves the first", x.find(1, 1), 33);
        Due.is("suspect(5, 1)", x.suspect(5, 1), 4);
        Due.read(x, "s4;s4;f9 10 18 18;");
        Due.read(x, "s4;f9 10 18;s4;");
        Due.is("moves(0, 1): 0, though an older fact moved him", x.moves(0, 1), 0);
        Due.is("and by 0 is he moved", x.find(0, 1), 17);
    }

    /** "how it MOVES him (0 .. 18, less 9" */
    private static void movesLessNine() {
        FifthsOfGuilt x = Due.told("s1;s1;s1;f1 10 0 9 18;");
        Due.is("least MOVES", x.moves(0, 0), -9);
        Due.is("no MOVES", x.moves(0, 1), 0);
        Due.is("most MOVES", x.moves(0, 2), 9);
        fault("s1;f1 1 19;", 8);
        fault("s1;s1;f1 1 18 19;", 14);
        fault("s1;s1;s1;s1;s1;s1;f1 1 9 9 9 9 9 19;", 33);
    }

    /** "ALIBIS (8 at most)", "a ninth alibi" */
    private static void alibisAtMost() {
        FifthsOfGuilt x = Due.told("s1;" + times(7, "a0 0 0 0;") + "a0 3 1 2;");
        Due.is("count(2) of eight", x.count(2), 8);
        Due.is("alibi(7, 1)", x.alibi(7, 1), 3);
        Due.is("alibi(8, 0)", x.alibi(8, 0), -1);
        fault("s1;" + times(8, "a0 0 0 0;") + "a0 0 0 0;", 75);
        fault("s1;" + times(8, "a0 0 0 0;") + "d1; a", 79);
        Due.is("count(2) of none", Due.told("s1;").count(2), 0);
    }

    /** An ALIBI: "a SUSPECT": one that there is. */
    private static void alibiOfASuspect() {
        FifthsOfGuilt x = Due.told("s1;a0 0 0 0;s1;s1;s1;s1;s1;a5 0 0 0;");
        Due.is("the first one's", x.alibi(0, 0), 0);
        Due.is("the last one's", x.alibi(1, 0), 5);
        fault("a0 0 0 0;", 1);
        fault("s1;a1 0 0 0;", 4);
        fault("s1;s1;s1;s1;s1;s1;a6 0 0 0;", 19);
        fault("s1;s1;a2 0 0 0;s1;", 7);
    }

    /** "a PLACE (0 .. 3)" */
    private static void placeOfAnAlibi() {
        FifthsOfGuilt x = Due.told("s1;a0 0 0 0;a0 3 0 0;");
        Due.is("least PLACE", x.alibi(0, 1), 0);
        Due.is("most PLACE", x.alibi(1, 1), 3);
        fault("s1;a0 4 0 0;", 6);
    }

    /** "FROM, TO hours (0 .. 23, TO no less than FROM, both in it)" */
    private static void hoursOfAnAlibi() {
        FifthsOfGuilt x = Due.told("s20;a0 0 0 0;a0 0 23 23;a0 0 0 23;a0 0 4 5;t0 23;");
        Due.is("least FROM", x.alibi(0, 2), 0);
        Due.is("least TO", x.alibi(0, 3), 0);
        Due.is("most FROM", x.alibi(1, 2), 23);
        Due.is("most TO", x.alibi(1, 3), 23);
        Due.is("0 to 0 is an hour", x.hear(0, 1), 19);
        Due.is("23 to 23 is an hour", x.hear(1, 1), 18);
        Due.is("4 to 5 are two", x.hear(3, 1), 16);
        x.hear(2, 1);
        Due.is("0 to 23 are all", x.suspect(0, 3), 24);
        fault("s1;a0 0 24 24;", 8);
        fault("s1;a0 0 0 24;", 10);
        fault("s1;a0 0 23 22;", 11);
        fault("s1;a0 0 1 0;", 10);
        fault("s1;a0 0 10 9;", 11);
    }

    /** "THE DEED: hours FROM, TO (0 .. 23", "T below F" */
    private static void hoursOfTheDeed() {
        String alibis = "s20;a0 0 0 0;a0 0 23 23;a0 0 0 23;";
        FifthsOfGuilt x = Due.told(alibis + "t0 0;");
        Due.is("0 to 0: hour 0", x.hear(0, 1), 19);
        Due.is("0 to 0: not hour 23", x.hear(1, 1), 19);
        Due.is("0 to 0: no other hour", x.hear(2, 1), 19);
        x = Due.told(alibis + "t23 23;");
        Due.is("23 to 23: not hour 0", x.hear(0, 1), 20);
        Due.is("23 to 23: hour 23", x.hear(1, 1), 19);
        x = Due.told(alibis + "t0 23;");
        x.hear(2, 1);
        Due.is("0 to 23: all hours", x.suspect(0, 3), 24);
        fault("t24 24;", 1);
        fault("t0 24;", 3);
        fault("t23 22;", 4);
        fault("t1 0;", 3);
        fault("t10 9;", 4);
        reads("t22 23;", 1);
        reads("t9 10;", 1);
    }

    /** THE DEED: "8 to 15 at first" */
    private static void deedAtFirst() {
        FifthsOfGuilt x = Due.told("s20;a0 0 0 7;a0 0 8 8;a0 0 15 15;a0 0 16 23;");
        Due.is("not 7", x.hear(0, 1), 20);
        Due.is("8", x.hear(1, 1), 19);
        Due.is("15", x.hear(2, 1), 18);
        Due.is("not 16", x.hear(3, 1), 18);
        Due.read(x, "s20;t20 21;");
        Due.read(x, "s20;t22 23;");
        Due.read(x, "s20;a0 0 0 23;");
        x.hear(0, 1);
        Due.is("at first it is of a text that tells none", x.suspect(0, 3), 8);
    }

    /** "DAYS (0 .. 60" */
    private static void days() {
        Due.is("least DAYS", Due.told("d0;").now(3), 0);
        Due.is("most DAYS", Due.told("d60;").now(3), 60);
        fault("d61;", 1);
        fault("d99;", 1);
    }

    /** DAYS: "10 at first" */
    private static void daysAtFirst() {
        FifthsOfGuilt x = Due.told("s1;");
        Due.is("10 of a text that tells none", x.now(3), 10);
        Due.read(x, "d33;");
        Due.read(x, "s1;");
        Due.is("10 again", x.now(3), 10);
        x.days(44);
        Due.read(x, "s1;");
        Due.is("10 once more", x.now(3), 10);
    }

    /** "They are a text (200 bytes at most)" */
    private static void twoHundredBytes() {
        FifthsOfGuilt x = new FifthsOfGuilt();
        Due.type(x, "s7;" + " ".repeat(195));
        Due.is("byte 199", x.type('d'), 199);
        Due.is("byte 200", x.type('9'), 200);
        Due.is("byte 201", x.type(';'), -3);
        Due.is("count(5)", x.count(5), 200);
        Due.is("court() of what it has", x.court(), -210);
        Due.is("clear()", x.clear(), 200);
        Due.type(x, "s7;" + " ".repeat(194) + "d9;");
        Due.is("count(5)", x.count(5), 200);
        Due.is("court() of 200 bytes", x.court(), 2);
        Due.is("now(3)", x.now(3), 9);
        Due.is("type() after it", x.type('s'), 1);
    }

    /** "A byte (0 .. 255) comes to THE TEXT: how many it has." */
    private static void bytesOfTheText() {
        FifthsOfGuilt x = new FifthsOfGuilt();
        Due.is("the least byte", x.type(0), 1);
        Due.is("the most byte", x.type(255), 2);
        Due.is("below", x.type(-1), -1);
        Due.is("above", x.type(256), -1);
        Due.is("count(5)", x.count(5), 2);
        Due.is("court(): 0 begins no token", x.court(), -10);
        x.clear();
        x.type(' ');
        x.type(255);
        Due.is("court(): nor does 255", x.court(), -11);
    }

    /** "blanks (32) between TOKENS": as many as there are, none too, and no other byte is one. */
    private static void blanksBetweenTokens() {
        reads("s1;f1 1 9;a0 0 0 0;t0 0;d1;", 5);
        reads("   s   1   ;   f   1   1   9   ;   ", 2);
        reads(" ", 0);
        reads(" ".repeat(200), 0);
        for (int other : new int[] {0, 8, 9, 10, 11, 12, 13, 31, 33, 95, 127, 160, 255}) {
            fault("s" + (char) other + "1;", 1);
            fault((char) other + "s1;", 0);
            fault("s1" + (char) other + ";", 2);
            fault("s1;" + (char) other, 3);
        }
        fault("s 1 2;", 4);
        fault("d 1 0;", 4);
        fault("s1;f 1 1 1 8;", 11);
    }

    /** "ITEMS, each letters and what is told, ended by ;" */
    private static void itemsAreEnded() {
        fault("s1 s1;", 3);
        fault("s1s1;", 2);
        fault("s1:", 2);
        fault("s1;;", 3);
        fault(";s1;", 0);
        fault(";", 0);
        fault("d1 t0 0;", 3);
        fault("t0 0 d1;", 5);
        fault("f1 1s1;", 4);
        fault("s1;a0 0 0 0a", 11);
        fault("s1;1;", 3);
    }

    /** "t, d once each at most", "what is told again that may not" */
    private static void onceAtMost() {
        reads("t0 0;d1;", 2);
        reads("d1;t0 0;", 2);
        fault("t0 0;t0 0;", 5);
        fault("d1;d1;", 3);
        fault("t0 0;d1; t", 9);
        fault("t0 0;d1; d", 9);
        FifthsOfGuilt x = new FifthsOfGuilt();
        Due.is("a fault", Due.read(x, "t1 1;d1;x"), -18);
        Due.is("what another text told counts not", Due.read(x, "t2 2;d2;"), 2);
        Due.is("nor does one that was read", Due.read(x, "t3 3;d3;"), 2);
        Due.is("now(3)", x.now(3), 3);
    }

    /** "TOKENS are letters a .. z side by side": of two there is one TOKEN, which begins no ITEM. */
    private static void lettersSideBySide() {
        fault("ss1;", 0);
        fault("sd1;", 0);
        fault("s1;dd1;", 3);
        fault("s1; ds 1;", 4);
        fault("ta1;", 0);
        fault("s s1;", 2);
        fault("saaaaaaaaaaaaaaaaaaaaaaaaaaaaaaaaaaaaaaaaaaaa1;", 0);
    }

    /** "letters that begin no ITEM" */
    private static void lettersThatBeginNoItem() {
        for (char c = 'a'; c <= 'z'; c++) {
            if ("sfatd".indexOf(c) < 0) {
                fault(c + "1;", 0);
                fault("s1; " + c, 4);
            }
        }
        reads("s1;f1 1 1;a0 0 0 0;t0 0;d1;", 5);
    }

    /** "of a byte that begins none, .. that TOKEN's" */
    private static void bytesThatBeginNone() {
        for (int c = 0; c <= 255; c++) {
            String text = "s1;s2" + (char) c;
            if (c == ';') {
                reads(text, 2);
            } else if (c == ' ' || c == '0') {
                // 2 or 20 may stand there, but then the text ends too early.
                fault(text, 6);
            } else if (c >= '1' && c <= '9') {
                fault(text, 4);
            } else {
                fault(text, 5);
            }
        }
    }

    /** "a NUMBER above 99": its TOKEN is at fault, wherever it stands. */
    private static void numbersAboveNinetyNine() {
        fault("s100;", 1);
        fault("s 100", 2);
        fault("s1000000;", 1);
        fault("s4294967296;", 1);
        fault("s4294967297;", 1);
        fault("s18446744073709551617;", 1);
        fault("s" + "9".repeat(150) + ";", 1);
        fault("s1;100", 3);
        fault("100", 0);
        fault("s1 100;", 3);
        fault("s99;", 1);
    }

    /** "or with a 0 ahead of others" */
    private static void numbersWithAZeroAhead() {
        reads("s0;", 1);
        fault("s00;", 1);
        fault("s01;", 1);
        fault("s09;", 1);
        fault("s010;", 1);
        fault("s" + "0".repeat(150) + "1;", 1);
        fault("d00", 1);
        fault("t0 00;", 3);
        reads("s10;s20;", 2);
        fault("s0 0;", 3);
    }

    /** "the first TOKEN that can't stand there": of each sort at each place of an ITEM. */
    private static void tokensThatCannotStandThere() {
        fault("s;", 1);
        fault("s s", 2);
        fault("f;", 1);
        fault("f1;", 2);
        fault("f1 f", 3);
        fault("s1;a;", 4);
        fault("s1;a0;", 5);
        fault("s1;a0 0;", 7);
        fault("s1;a0 0 0;", 9);
        fault("s1;a0 0 0 0 0;", 12);
        fault("s1;a0 0 0 a", 10);
        fault("t;", 1);
        fault("t0;", 2);
        fault("t0 0 0;", 5);
        fault("t0 t", 3);
        fault("d;", 1);
        fault("d0 0;", 3);
        fault("d d", 2);
        fault("7", 0);
        // No letters for a number, nor a number for the letter of that number.
        fault("s ab;", 2);
        fault("t0 zz;", 3);
        fault("s1;97 0 0 0 0;", 3);
    }

    /** "the first TOKEN": what stands behind it does not count, however wrong. */
    private static void theFirstFault() {
        fault("x!;", 0);
        fault("s21!", 1);
        fault("s1 x 100 !", 3);
        fault("t5 4 3 2 1;", 3);
        fault("s1;f0 11 19;", 4);
        fault("s1;f1 11 19;", 6);
        fault("s1;a1 4 24 24;", 4);
        fault("s1;a0 4 24 24;", 6);
        fault("d61 61;", 1);
        fault("s1;s1;s1;s1;s1;s1;s21!", 18);
        fault("t0 0;t24 !", 5);
    }

    /** "the text's length, if it ends too early" */
    private static void endsTooEarly() {
        String whole = "s1;f1 1 9;a0 0 0 0;t0 0;d1;";
        for (int size = 1; size <= whole.length(); size++) {
            String part = whole.substring(0, size);
            if (part.endsWith(";")) {
                continue;
            }
            fault(part, size);
            fault(part + "   ", size + 3);
        }
        fault(" ".repeat(199) + "s", 200);
        fault("s" + " ".repeat(199), 200);
        fault("s1;d" + " ".repeat(195) + "1", 200);
        FifthsOfGuilt x = new FifthsOfGuilt();
        Due.is("a longer text", Due.read(x, "s1;s1;"), 2);
        Due.is("it ends where it ends, not in older bytes", Due.read(x, "s1"), -12);
        Due.is("a longer text", Due.read(x, "s123;"), -11);
        Due.is("a number ends with the text", Due.read(x, "s1"), -12);
        Due.is("a longer text", Due.read(x, "ss"), -10);
        Due.is("letters end with the text", Due.read(x, "s"), -11);
    }

    /** "how many ITEMS" */
    private static void howManyItems() {
        reads("", 0);
        reads("s1;", 1);
        reads("s1;s1;s1;s1;s1;s1;" + times(8, "a0 0 0 0;") + "t0 0;d0;", 16);
        reads(times(8, "f1 1;") + "s1;s1;s1;s1;s1;s1;" + times(8, "a0 0 0 0;") + "t0 0;d0;", 24);
    }

    /** "THE TEXT tells all, and is empty then" */
    private static void theTextIsEmptyThen() {
        FifthsOfGuilt x = Due.told("s9;s9;f1 1 1 1;a0 0 0 0;t0 0;d9;");
        Due.is("count(5)", x.count(5), 0);
        Due.is("clear()", x.clear(), 0);
        Due.is("court() of no text tells all: nothing", x.court(), 0);
        int[] counts = {0, 0, 0, 0, 0, 0};
        for (int what = 0; what <= 5; what++) {
            Due.is("count(" + what + ") of it", x.count(what), counts[what]);
        }
        Due.is("now(0) of it", x.now(0), 0);
        Due.is("now(3) of it", x.now(3), 10);
    }

    /** "THE TEXT is empty: how many bytes it had." */
    private static void clear() {
        FifthsOfGuilt x = Due.told("s9;d9;");
        Due.is("of none", x.clear(), 0);
        Due.type(x, "s");
        Due.is("of one", x.clear(), 1);
        Due.is("again", x.clear(), 0);
        Due.type(x, "x".repeat(200));
        Due.is("of all", x.clear(), 200);
        Due.is("type() then", x.type('s'), 1);
        Due.is("the case stays", x.now(0), 9);
        Due.is("DAYS stay", x.now(3), 9);
        Due.is("SUSPECTS stay", x.count(0), 1);
    }

    /** "Of a SUSPECT: 0 GRUDGE, 1 what is HELD against him, 2 what he SERVES, 3 hours" */
    private static void whatASuspectIs() {
        FifthsOfGuilt x = Due.told("s20;s0;s1;s1;s1;s7;f1 10 18 0 9 9 9 18;a5 0 8 10;d60;");
        x.find(0, 1);
        x.hear(0, 1);
        // 29, 0, 1, 1, 1, 13 of 45: 60 days are 38 and 30, 0, 1 and 15, .., 17 and 15.
        int[][] due = {{20, 29, 39, 0}, {0, 0, 0, 0}, {1, 1, 2, 0}, {1, 1, 1, 0}, {1, 1, 1, 0}, {7, 13, 17, 3}};
        for (int s = 0; s < 6; s++) {
            for (int what = 0; what <= 3; what++) {
                Due.is("suspect(" + s + ", " + what + ")", x.suspect(s, what), due[s][what]);
            }
        }
    }

    /** "Of a FACT: 0 COST, 1 TRUST, 2 whether it is FOUND." */
    private static void whatAFactIs() {
        FifthsOfGuilt x = Due.told("f1 0;f2 1;f3 2;f4 3;f5 4;f6 5;f7 9;f9 10;");
        x.find(0, 1);
        x.find(7, 1);
        x.find(3, 1);
        x.find(3, 0);
        int[] trust = {0, 1, 2, 3, 4, 5, 9, 10};
        for (int f = 0; f < 8; f++) {
            Due.is("fact(" + f + ", 0)", x.fact(f, 0), f == 7 ? 9 : f + 1);
            Due.is("fact(" + f + ", 1)", x.fact(f, 1), trust[f]);
            Due.is("fact(" + f + ", 2)", x.fact(f, 2), f == 0 || f == 7 ? 1 : 0);
        }
    }

    /** "Of an ALIBI: 0 SUSPECT, 1 PLACE, 2 FROM, 3 TO, 4 whether it is HEARD." */
    private static void whatAnAlibiIs() {
        FifthsOfGuilt x = Due.told("s1;s1;a0 0 0 23;a1 1 1 22;a0 2 2 21;a1 3 3 20;a0 0 4 19;a1 1 5 18;a0 2 6 17;a1 3 7 7;");
        x.hear(0, 1);
        x.hear(7, 1);
        x.hear(4, 1);
        x.hear(4, 0);
        for (int a = 0; a < 8; a++) {
            int[] due = {a % 2, a % 4, a, a == 7 ? 7 : 23 - a, a == 0 || a == 7 ? 1 : 0};
            for (int what = 0; what <= 4; what++) {
                Due.is("alibi(" + a + ", " + what + ")", x.alibi(a, what), due[what]);
            }
        }
    }
}
