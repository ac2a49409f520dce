/** Promises 1 to 8: a new object, THE TEXT, court(), and what it told. */
public final class CaseTest {
    private static final int[] WILD = {-1, Integer.MIN_VALUE, Integer.MAX_VALUE, 1000};

    public static void main(String[] args) {
        newObject();
        typeAndClear();
        courtReads();
        courtBeginsAnew();
        faultsOfTokens();
        faultsOfNumbers();
        faultsOfItems();
        faultsOfLimits();
        faultsAtTheEnd();
        faultChangesNothing();
        suspects();
        facts();
        moves();
        alibis();
        Due.end();
    }

    private static void newObject() {
        FifthsOfGuilt x = new FifthsOfGuilt();
        for (int what = 0; what <= 5; what++) {
            Due.is("new: count(" + what + ")", x.count(what), 0);
        }
        Due.is("new: now(0)", x.now(0), 0);
        Due.is("new: now(1)", x.now(1), 0);
        Due.is("new: now(2)", x.now(2), 0);
        Due.is("new: now(3)", x.now(3), 10);
        Due.is("new: now(4)", x.now(4), 0);
        Due.is("new: suspect(0, 0)", x.suspect(0, 0), -1);
        Due.is("new: fact(0, 0)", x.fact(0, 0), -1);
        Due.is("new: alibi(0, 0)", x.alibi(0, 0), -1);
        Due.is("new: undo()", x.undo(), -2);
        Due.is("new: back(0)", x.back(0), -2);
        Due.is("new: gains(0)", x.gains(0), -9);
        Due.is("new: gains(1)", x.gains(1), -1);
        Due.is("new: trace()", x.trace(), 0);
    }

    private static void typeAndClear() {
        FifthsOfGuilt x = new FifthsOfGuilt();
        Due.is("type(-1)", x.type(-1), -1);
        Due.is("type(256)", x.type(256), -1);
        Due.is("type(0)", x.type(0), 1);
        Due.is("type(255)", x.type(255), 2);
        Due.is("count(5)", x.count(5), 2);
        Due.is("clear()", x.clear(), 2);
        Due.is("clear() again", x.clear(), 0);
        for (int i = 1; i <= 200; i++) {
            Due.is("type(32), the " + i + ".", x.type(32), i);
        }
        Due.is("type(32) of a full text", x.type(32), -3);
        Due.is("type(256) of a full text", x.type(256), -1);
        Due.is("count(5) of a full text", x.count(5), 200);
        Due.is("court() of 200 blanks", x.court(), 0);
        Due.is("count(5) after court()", x.count(5), 0);
        Due.is("clear() after court()", x.clear(), 0);
    }

    private static void courtReads() {
        FifthsOfGuilt x = new FifthsOfGuilt();
        Due.is("court() of no text", x.court(), 0);
        Due.is("count(0)", x.count(0), 0);
        Due.is("no blanks", Due.read(x, "s0;s20;f9 10 0 18;a1 3 0 23;t0 23;d60;"), 6);
        Due.is("count(0)", x.count(0), 2);
        Due.is("count(1)", x.count(1), 1);
        Due.is("count(2)", x.count(2), 1);
        Due.is("now(3)", x.now(3), 60);
        Due.is("many blanks", Due.read(x, "  s   5  ;  d 0 ;  "), 2);
        Due.is("now(3)", x.now(3), 0);
        Due.is("most of all", Due.read(x, "s1;s2;s3;s4;s5;s6;f1 1 9 9 9 9 9 9;f1 1 9 9 9 9 9 9;f1 1 9 9 9 9 9 9;"
            + "f1 1 9 9 9 9 9 9;f1 1 9 9 9 9 9 9;f1 1 9 9 9 9 9 9;f1 1 9 9 9 9 9 9;f1 1 9 9 9 9 9 9;"), 14);
        Due.is("alibis", Due.read(x, "s1;a0 0 0 0;a0 0 0 0;a0 0 0 0;a0 0 0 0;a0 0 0 0;a0 0 0 0;a0 0 0 0;a0 0 0 0;"), 9);
        Due.is("count(2)", x.count(2), 8);
    }

    private static void courtBeginsAnew() {
        FifthsOfGuilt x = Due.told("s9;f1 10 18;a0 0 8 9;t 8 9;d 20;");
        x.find(0, 1);
        x.hear(0, 1);
        x.days(30);
        x.book(0, 3);
        x.keep(0);
        x.keep(1);
        x.mark(0, 0);
        Due.is("read anew", Due.read(x, "s9;f1 10 18;a0 0 8 20;"), 3);
        Due.is("now(0)", x.now(0), 9);
        Due.is("now(1)", x.now(1), 0);
        Due.is("now(2)", x.now(2), 0);
        Due.is("now(3) is as at first", x.now(3), 10);
        Due.is("count(3)", x.count(3), 0);
        Due.is("count(4)", x.count(4), 0);
        Due.is("undo()", x.undo(), -2);
        Due.is("back(0)", x.back(0), -2);
        Due.is("back(1)", x.back(1), -2);
        Due.is("hear(0, 1): the deed is as at first", x.hear(0, 1), 1);
        Due.is("trace() stays", x.trace(), 1);
    }

    /** Each text with the place of its FAULT. */
    private static void fault(String text, int place) {
        Due.is("court() of '" + text + "'", Due.read(new FifthsOfGuilt(), text), -10 - place);
    }

    private static void faultsOfTokens() {
        fault("x", 0);
        fault("  x 5;", 2);
        fault("ss 5;", 0);
        fault("sf5;", 0);
        fault("S 5;", 0);
        fault("5;", 0);
        fault(";", 0);
        fault("s;", 1);
        fault("s s;", 2);
        fault("s 5 6;", 4);
        fault("s 5 s;", 4);
        fault("s 5!;", 3);
        fault("s\t5;", 1);
        fault("s 5;\n", 4);
        fault("s-5;", 1);
        fault("s 5;;", 4);
        fault("s 5; d 5; ,", 10);
        fault("s" + (char) 0 + ";", 1);
        fault("s" + (char) 255 + ";", 1);
        fault("s 5;`", 4);
        fault("s 5;{", 4);
        fault("s /;", 2);
        fault("s :;", 2);
        fault("s", 1);
        fault("s  ", 3);
        fault("s 5", 3);
        fault("s 5   ", 6);
        fault("s 5; f 1 1 ", 11);
        fault("t 5", 3);
    }

    private static void faultsOfNumbers() {
        fault("s 100;", 2);
        fault("s 05;", 2);
        fault("s 00;", 2);
        fault("s 000;", 2);
        fault("s 99999999999999999999;", 2);
        fault("s 4294967297;", 2);
        fault("s 1 0;", 4);
        fault("s 010", 2);
        fault("s 5;d 1000", 6);
    }

    private static void faultsOfItems() {
        fault("s 21;", 2);
        fault("f 0 1;", 2);
        fault("f 10 1;", 2);
        fault("f 1 11;", 4);
        fault("f 1 10 1;", 7);
        fault("s1;f 1 10;", 9);
        fault("s1;f 1 10 19;", 10);
        fault("s1;f 1 10 18 9;", 13);
        fault("a 0 0 0 0;", 2);
        fault("s1;a 1 0 0 0;", 5);
        fault("a 0 0 0 0;s1;", 2);
        fault("s1;a 0 4 0 0;", 7);
        fault("s1;a 0 0 24 24;", 9);
        fault("s1;a 0 0 5 4;", 11);
        fault("s1;a 0 0 5 24;", 11);
        fault("s1;a 0 0 5 5 5;", 13);
        fault("t 24 24;", 2);
        fault("t 5 4;", 4);
        fault("t 5 24;", 4);
        fault("d 61;", 2);
    }

    private static void faultsOfLimits() {
        fault("s1;s1;s1;s1;s1;s1;s1;", 18);
        fault("f1 1;f1 1;f1 1;f1 1;f1 1;f1 1;f1 1;f1 1; f 1 1;", 41);
        fault("s1;a0 0 0 0;a0 0 0 0;a0 0 0 0;a0 0 0 0;a0 0 0 0;a0 0 0 0;a0 0 0 0;a0 0 0 0;a 99", 75);
        fault("t0 0;t0 0;", 5);
        fault("d1;d1;", 3);
        fault("d1;t0 0;s1; d1;", 12);
    }

    /** THE TEXT ends where it ends, whatever older bytes stood behind it. */
    private static void faultsAtTheEnd() {
        FifthsOfGuilt x = new FifthsOfGuilt();
        Due.is("a longer text", Due.read(x, "sss111"), -10);
        Due.is("letters end with the text", Due.read(x, "s"), -11);
        Due.is("a longer text", Due.read(x, "s 1234"), -12);
        Due.is("a number ends with the text", Due.read(x, "s 1"), -13);
        Due.is("a longer text", Due.read(x, "s 1;"), 1);
        Due.is("a stop behind the text", Due.read(x, "s 1"), -13);
        String blanks = " ".repeat(199);
        Due.is("letters at the last byte", Due.read(x, blanks + "s"), -210);
        Due.is("wrong letters at the last byte", Due.read(x, blanks + "x"), -209);
        Due.is("a number at the last byte", Due.read(x, "s" + blanks.substring(1) + "1"), -210);
        Due.is("a stop at the last byte", Due.read(x, "s1" + blanks.substring(2) + ";"), 1);
    }

    private static void faultChangesNothing() {
        FifthsOfGuilt x = Due.told("s9;f1 10 18;a0 0 8 9;d 20;");
        x.find(0, 1);
        x.keep(0);
        x.book(0, 20);
        Due.is("a fault", Due.read(x, "s1;s2;d 3;f 1 1 1 1;x"), -30);
        Due.is("count(5)", x.count(5), 21);
        Due.is("count(0)", x.count(0), 1);
        Due.is("count(3)", x.count(3), 1);
        Due.is("count(4)", x.count(4), 1);
        Due.is("now(0)", x.now(0), 18);
        Due.is("now(3)", x.now(3), 20);
        Due.is("back(0)", x.back(0), 18);
        Due.is("court() once more", x.court(), -30);
        Due.is("clear()", x.clear(), 21);
        Due.is("a good text after a fault", Due.read(x, "s4;s4;"), 2);
        Due.is("now(3)", x.now(3), 10);
        Due.is("count(1)", x.count(1), 0);
    }

    private static void suspects() {
        FifthsOfGuilt x = Due.told("s 9;s 3;s 20;f 1 10 9 0 9;f 2 5 9 9 18;a 0 0 7 9;a 0 1 9 11;a 1 0 16 20;d 7;");
        Due.is("suspect(0, 0)", x.suspect(0, 0), 9);
        Due.is("suspect(2, 0)", x.suspect(2, 0), 20);
        Due.is("suspect(1, 1)", x.suspect(1, 1), 3);
        x.find(0, 1);
        Due.is("suspect(1, 1): 3 - 9, 0 at least", x.suspect(1, 1), 0);
        x.find(1, 1);
        Due.is("suspect(2, 1): half of 9, cut", x.suspect(2, 1), 24);
        Due.is("suspect(0, 3): none heard", x.suspect(0, 3), 0);
        x.hear(0, 1);
        Due.is("suspect(0, 3): 8, 9", x.suspect(0, 3), 2);
        x.hear(1, 1);
        Due.is("suspect(0, 3): 9 counts once", x.suspect(0, 3), 4);
        Due.is("suspect(0, 1)", x.suspect(0, 1), 5);
        x.hear(2, 1);
        Due.is("suspect(1, 3): outside the deed", x.suspect(1, 3), 0);
        // 5, 0, 24 of 29; 7 days: 35 / 29 is 1 and 6, 168 / 29 is 5 and 23.
        Due.is("suspect(0, 2)", x.suspect(0, 2), 1);
        Due.is("suspect(1, 2)", x.suspect(1, 2), 0);
        Due.is("suspect(2, 2)", x.suspect(2, 2), 6);
        Due.is("suspect(3, 0)", x.suspect(3, 0), -1);
        Due.is("suspect(0, 4)", x.suspect(0, 4), -1);
        for (int wild : WILD) {
            Due.is("suspect(" + wild + ", 0)", x.suspect(wild, 0), -1);
            Due.is("suspect(0, " + wild + ")", x.suspect(0, wild), -1);
        }
        roundingDown();
    }

    private static void roundingDown() {
        FifthsOfGuilt x = Due.told("s 9;s 9;f 1 9 0 18;f 1 3 6 12;f 1 0 18 18;");
        x.find(0, 1);
        Due.is("-9 * 9 / 10 is cut towards 0", x.suspect(0, 1), 1);
        Due.is("9 * 9 / 10 is cut", x.suspect(1, 1), 17);
        x.find(1, 1);
        Due.is("-3 * 3 / 10 is 0", x.suspect(0, 1), 1);
        Due.is("3 * 3 / 10 is 0", x.suspect(1, 1), 17);
        x.find(2, 1);
        Due.is("no trust", x.suspect(1, 1), 17);
    }

    private static void facts() {
        FifthsOfGuilt x = Due.told("f 9 0;f 1 10;");
        Due.is("fact(0, 0)", x.fact(0, 0), 9);
        Due.is("fact(0, 1)", x.fact(0, 1), 0);
        Due.is("fact(1, 0)", x.fact(1, 0), 1);
        Due.is("fact(1, 1)", x.fact(1, 1), 10);
        Due.is("fact(1, 2)", x.fact(1, 2), 0);
        x.find(1, 1);
        Due.is("fact(1, 2) found", x.fact(1, 2), 1);
        Due.is("fact(0, 2)", x.fact(0, 2), 0);
        Due.is("fact(2, 0)", x.fact(2, 0), -1);
        Due.is("fact(0, 3)", x.fact(0, 3), -1);
        for (int wild : WILD) {
            Due.is("fact(" + wild + ", 0)", x.fact(wild, 0), -1);
            Due.is("fact(0, " + wild + ")", x.fact(0, wild), -1);
        }
    }

    private static void moves() {
        FifthsOfGuilt x = Due.told("s1;f 1 1 0;s1;f 1 1 18 4;s 1;");
        Due.is("moves(0, 0)", x.moves(0, 0), -9);
        Due.is("moves(0, 1): later", x.moves(0, 1), 0);
        Due.is("moves(1, 0)", x.moves(1, 0), 9);
        Due.is("moves(1, 1)", x.moves(1, 1), -5);
        Due.is("moves(1, 2): later", x.moves(1, 2), 0);
        Due.is("moves(2, 0)", x.moves(2, 0), -1000000);
        Due.is("moves(0, 3)", x.moves(0, 3), -1000000);
        for (int wild : WILD) {
            Due.is("moves(" + wild + ", 0)", x.moves(wild, 0), -1000000);
            Due.is("moves(0, " + wild + ")", x.moves(0, wild), -1000000);
        }
        Due.read(x, "s1;s1;s1;f 1 10 0 0 0;");
        Due.read(x, "s1;s1;");
        Due.read(x, "f 1 10;s1;s1;s1;");
        Due.is("nothing of older texts stays", x.moves(0, 2), 0);
        Due.is("nor of what they move", x.find(0, 1), 3);
    }

    private static void alibis() {
        FifthsOfGuilt x = Due.told("s1;s1;a 1 3 4 23;a 0 2 5 5;");
        int[] due = {1, 3, 4, 23, 0};
        for (int what = 0; what <= 4; what++) {
            Due.is("alibi(0, " + what + ")", x.alibi(0, what), due[what]);
        }
        Due.is("alibi(1, 0)", x.alibi(1, 0), 0);
        Due.is("alibi(1, 1)", x.alibi(1, 1), 2);
        x.hear(0, 1);
        Due.is("alibi(0, 4) heard", x.alibi(0, 4), 1);
        Due.is("alibi(1, 4)", x.alibi(1, 4), 0);
        Due.is("alibi(2, 0)", x.alibi(2, 0), -1);
        Due.is("alibi(0, 5)", x.alibi(0, 5), -1);
        for (int wild : WILD) {
            Due.is("alibi(" + wild + ", 0)", x.alibi(wild, 0), -1);
            Due.is("alibi(0, " + wild + ")", x.alibi(0, wild), -1);
        }
    }
}
