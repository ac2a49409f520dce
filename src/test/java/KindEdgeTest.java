/**
 * The boundary cases of part 4 of the document's terms, and of promises 28 to 32: KINDS and THE TRACE,
 * IMAGES, what is gone when a text is read anew. A method for each sentence, which its comment quotes.
 * (What is refused by its numbers, and that nothing changes then: RefusedTest.)
 */
public final class KindEdgeTest {
    private static final int NO = -1000000;

    public static void main(String[] args) {
        kindsOverOneAnother();
        markOfNothing();
        markOfMost();
        markBelowNothing();
        traceAsOften();
        traceOfRefusedMarks();
        markChangesTheTraceAlone();
        imagesOfTwo();
        imageIsKeptAgain();
        imageIsNotWorn();
        imagesKeepNow();
        imagesKeepNothingElse();
        imagesKeepTenToBeUndone();
        backIsNotUndone();
        keepAndBackAnswerTheCase();
        readAnew();
        readAnewWithNothing();
        imagesAreGone();
        counts();
        Due.end();
    }

    private static void marks(FifthsOfGuilt x, int s, int... due) {
        for (int kind = 0; kind < due.length; kind++) {
            Due.is("mark(" + kind + ", " + s + ")", x.mark(kind, s), due[kind]);
        }
    }

    // ---- KINDS

    /** "SUSPECT what is HELD .. THIEF up, and GRUDGE .. WITNESS up less how many ALIBIS he has .." */
    private static void kindsOverOneAnother() {
        FifthsOfGuilt x = Due.told("s3;s7;s4;f1 10 9 11 9;f1 10 9 9 9;f1 10 9 9 9;a2 0 8 8;a2 1 9 9;a1 0 20 21;");
        x.find(0, 1);
        x.find(2, 1);
        x.hear(0, 1);
        marks(x, 0, 3, 6, 3, 12, 3, 5);
        marks(x, 1, 9, 16, 8, 32, 9, 11);
        marks(x, 2, 3, 7, 1, 14, 3, 5);
    }

    /** Nothing HELD, no GRUDGE, no ALIBIS, no FACTS, the number 0. */
    private static void markOfNothing() {
        marks(Due.told("s0;"), 0, 0, 0, 0, 0, 0, 0);
    }

    /** As much as there may be of all. */
    private static void markOfMost() {
        FifthsOfGuilt x = Due.told("s20;" + "f9 10 18;".repeat(8) + "s0;s0;s0;s0;s20;");
        for (int f = 0; f < 8; f++) {
            x.find(f, 1);
        }
        marks(x, 0, 92, 112, 92, 224, 92, 100);
        marks(x, 5, 20, 40, 20, 80, 25, 28);
    }

    /** "WITNESS up less how many ALIBIS he has": below 0, too; HEARD or not. */
    private static void markBelowNothing() {
        FifthsOfGuilt x = Due.told("s0;s0;" + "a1 0 8 8;".repeat(8));
        marks(x, 0, 0, 0, 0, 0, 0, 0);
        marks(x, 1, 0, 0, -8, 0, -7, 0);
        for (int a = 0; a < 8; a++) {
            x.hear(a, 1);
        }
        marks(x, 1, 0, 0, -8, 0, -7, 0);
        x = Due.told("s0;a0 0 8 8;");
        Due.is("-1 is a mark, not BAD", x.mark(2, 0), -1);
    }

    // ---- THE TRACE

    /** "numbers in brackets come to THE TRACE as often as mark() asks that body" */
    private static void traceAsOften() {
        int[] due = {1, 11, 101, 1011, 10101, 100001};
        for (int kind = 0; kind <= 5; kind++) {
            FifthsOfGuilt x = Due.told("s5;");
            Due.is("trace() ahead", x.trace(), 0);
            x.mark(kind, 0);
            Due.is("trace() of a mark of " + kind, x.trace(), due[kind]);
            x.mark(kind, 0);
            Due.is("trace() of two", x.trace(), 2 * due[kind]);
        }
    }

    /** "MARK. NO: BAD": no body is asked then. */
    private static void traceOfRefusedMarks() {
        FifthsOfGuilt x = Due.told("s5;");
        Due.is("mark(6, 0)", x.mark(6, 0), NO);
        Due.is("mark(-1, 0)", x.mark(-1, 0), NO);
        Due.is("mark(3, 1)", x.mark(3, 1), NO);
        Due.is("mark(3, -1)", x.mark(3, -1), NO);
        Due.is("trace()", x.trace(), 0);
    }

    /** mark() changes nothing else. (No other call asks a body: RefusedTest.) */
    private static void markChangesTheTraceAlone() {
        // HELD: a GRUDGE of 9, less 4 by fact 1, less 4 hours; two ALIBIS, one FACT FOUND.
        int[] due = {1, 10, -1, 20, -1, 2};
        int[] more = {1, 11, 101, 1011, 10101, 100001};
        for (int kind = 0; kind <= 5; kind++) {
            int asked = kind;
            Twin.onlyTraced("mark(" + kind + ", 0)", Twin::busy, x -> x.mark(asked, 0), due[kind], more[kind]);
        }
    }

    // ---- IMAGES

    /** "IMAGES 0, 1": of each its own. */
    private static void imagesOfTwo() {
        FifthsOfGuilt x = Due.told("s9;");
        Due.is("back(0) of none", x.back(0), -2);
        Due.is("back(1) of none", x.back(1), -2);
        x.days(1);
        x.keep(1);
        Due.is("back(0) of none yet", x.back(0), -2);
        x.days(2);
        x.keep(0);
        x.days(3);
        x.back(1);
        Due.is("now(3) of the one", x.now(3), 1);
        x.back(0);
        Due.is("now(3) of the other", x.now(3), 2);
    }

    /** "An IMAGE is kept": what it had is no more. */
    private static void imageIsKeptAgain() {
        FifthsOfGuilt x = Due.told("s9;");
        x.days(1);
        x.keep(0);
        x.days(2);
        x.keep(0);
        x.days(3);
        x.back(0);
        Due.is("now(3)", x.now(3), 2);
        Due.is("count(4)", x.count(4), 2);
    }

    /** "All of that becomes as an IMAGE has it": as often as it is asked, whatever came then. */
    private static void imageIsNotWorn() {
        FifthsOfGuilt x = Due.told("s9;f1 10 18;a0 0 8 8;d0;");
        x.days(1);
        x.days(2);
        x.keep(1);
        for (int round = 0; round < 3; round++) {
            x.undo();
            x.undo();
            x.find(0, 1);
            x.hear(0, 1);
            x.days(50 + round);
            Due.is("back(1)", x.back(1), 9);
            Due.is("now(3)", x.now(3), 2);
            Due.is("undo()", x.undo(), 1);
            Due.is("now(3) undone", x.now(3), 1);
            Due.is("undo()", x.undo(), 0);
            Due.is("now(3) undone", x.now(3), 0);
            Due.is("undo() of none", x.undo(), -2);
        }
    }

    /** "keep NOW (FACTS FOUND, ALIBIS HEARD, DAYS, what may be UNDONE)" */
    private static void imagesKeepNow() {
        FifthsOfGuilt x = Due.told("s9;" + "f1 10 10;".repeat(8) + "a0 0 8 8;".repeat(8));
        x.find(7, 1);
        x.hear(7, 1);
        x.days(60);
        x.keep(0);
        x.find(7, 0);
        x.find(0, 1);
        x.hear(7, 0);
        x.hear(0, 1);
        x.days(0);
        x.back(0);
        Due.is("now(1)", x.now(1), 128);
        Due.is("now(2)", x.now(2), 128);
        Due.is("now(3)", x.now(3), 60);
        Due.is("count(4)", x.count(4), 3);
        Due.is("undo()", x.undo(), 2);
        Due.is("now(3)", x.now(3), 10);
        Due.is("undo()", x.undo(), 1);
        Due.is("now(2)", x.now(2), 0);
        Due.is("undo()", x.undo(), 0);
        Due.is("now(1)", x.now(1), 0);
    }

    /** "nothing else": neither THE BOOK, nor THE TEXT, nor THE TRACE. */
    private static void imagesKeepNothingElse() {
        FifthsOfGuilt x = Due.told("s9;");
        x.book(0, 10);
        x.type('s');
        x.mark(0, 0);
        x.keep(0);
        x.book(0, 11);
        x.type('1');
        x.mark(5, 0);
        x.keep(1);
        x.burn();
        x.back(0);
        Due.is("count(3) of a burnt book", x.count(3), 0);
        Due.is("count(5)", x.count(5), 2);
        Due.is("trace()", x.trace(), 100002);
        x.book(0, 12);
        x.back(1);
        Due.is("count(3)", x.count(3), 1);
        Due.is("the line is the new one", x.books(0), 0);
        x.days(12);
        Due.is("by days of it", x.books(0), 1);
        x.type(';');
        Due.is("court(): the text is whole", x.court(), 1);
        Due.is("now(0)", x.now(0), 1);
    }

    /** What may be UNDONE of ten, in an IMAGE, too. */
    private static void imagesKeepTenToBeUndone() {
        FifthsOfGuilt x = Due.told("d0;");
        for (int n = 1; n <= 11; n++) {
            x.days(n);
        }
        x.keep(0);
        for (int n = 40; n <= 52; n++) {
            x.days(n);
        }
        x.back(0);
        Due.is("count(4)", x.count(4), 10);
        for (int n = 10; n >= 1; n--) {
            x.undo();
            Due.is("now(3)", x.now(3), n);
        }
        Due.is("undo() of none", x.undo(), -2);
    }

    /** back() is no change that may be UNDONE, nor is keep(). */
    private static void backIsNotUndone() {
        FifthsOfGuilt x = Due.told("s9;");
        x.keep(0);
        Due.is("count(4) after keep()", x.count(4), 0);
        x.days(5);
        x.back(0);
        Due.is("count(4) after back()", x.count(4), 0);
        Due.is("undo()", x.undo(), -2);
        Due.is("now(3)", x.now(3), 10);
        x.days(10);
        Due.is("count(4)", x.count(4), 0);
    }

    /** "An IMAGE is kept: THE CASE." "becomes as an IMAGE has it: THE CASE" */
    private static void keepAndBackAnswerTheCase() {
        FifthsOfGuilt x = Due.told("s9;f1 10 18;f1 10 0;f1 10 0;");
        Due.is("keep(0)", x.keep(0), 9);
        x.find(1, 1);
        Due.is("keep(1) of a fallen case", x.keep(1), 0);
        x.find(0, 1);
        Due.is("back(0)", x.back(0), 9);
        Due.is("back(1) to a fallen case", x.back(1), 0);
    }

    // ---- read anew

    /** "(Read anew: as told, none FOUND or HEARD, nothing in THE BOOK or to be UNDONE, IMAGES are gone.)" */
    private static void readAnew() {
        FifthsOfGuilt x = new FifthsOfGuilt();
        Twin.busy(x);
        x.keep(1);
        Due.is("the same text", Due.read(x, "s9;s6;s0;f2 10 12 9 4;f3 5 0 18 9;f1 9 9 0 11;a0 1 8 10;a0 2 9 12;t8 12;d20;"), 10);
        int[] now = {15, 0, 0, 20, 20};
        for (int what = 0; what <= 4; what++) {
            Due.is("now(" + what + ")", x.now(what), now[what]);
        }
        int[] counts = {3, 3, 2, 0, 0, 0};
        for (int what = 0; what <= 5; what++) {
            Due.is("count(" + what + ")", x.count(what), counts[what]);
        }
        Due.is("undo()", x.undo(), -2);
        Due.is("back(0)", x.back(0), -2);
        Due.is("back(1)", x.back(1), -2);
        Due.is("burn()", x.burn(), 0);
        Due.is("books(0)", x.books(0), 8);
        Due.is("trace() is not told to be gone", x.trace(), 1011);
        for (int i = 0; i < 2; i++) {
            Due.is("fact(" + i + ", 2)", x.fact(i, 2), 0);
            Due.is("alibi(" + i + ", 4)", x.alibi(i, 4), 0);
        }
    }

    /** A text of no ITEMS tells of nothing. */
    private static void readAnewWithNothing() {
        FifthsOfGuilt x = new FifthsOfGuilt();
        Twin.busy(x);
        Due.is("court() of blanks", Due.read(x, "   "), 0);
        for (int what = 0; what <= 5; what++) {
            Due.is("count(" + what + ")", x.count(what), 0);
        }
        Due.is("now(0)", x.now(0), 0);
        Due.is("now(3)", x.now(3), 10);
        Due.is("suspect(0, 0)", x.suspect(0, 0), -1);
        Due.is("fact(0, 0)", x.fact(0, 0), -1);
        Due.is("alibi(0, 0)", x.alibi(0, 0), -1);
        Due.is("back(0)", x.back(0), -2);
    }

    /** "IMAGES are gone", and may be kept again. */
    private static void imagesAreGone() {
        FifthsOfGuilt x = Due.told("s9;d1;");
        x.keep(0);
        x.keep(1);
        Due.read(x, "s8;d2;");
        Due.is("keep(1)", x.keep(1), 8);
        Due.is("back(0) is gone", x.back(0), -2);
        Due.is("back(1)", x.back(1), 8);
        Due.is("now(3)", x.now(3), 2);
        Due.is("a fault", Due.read(x, "s8;d"), -14);
        Due.is("back(1) is not gone by it", x.back(1), 8);
    }

    /** "0 SUSPECTS, 1 FACTS, 2 ALIBIS, 3 lines of THE BOOK, 4 how many may be UNDONE, 5 bytes of THE TEXT" */
    private static void counts() {
        FifthsOfGuilt x = Due.told("s1;s1;s1;s1;s1;s1;f1 1 9 9 9 9 9 9;f1 1 9 9 9 9 9 9;" + "a0 0 0 0;".repeat(8));
        for (int i = 0; i < 7; i++) {
            x.book(0, 0);
        }
        for (int i = 0; i < 11; i++) {
            x.days(20 + i);
        }
        Due.type(x, "x".repeat(201));
        int[] most = {6, 2, 8, 6, 10, 200};
        for (int what = 0; what <= 5; what++) {
            Due.is("count(" + what + ")", x.count(what), most[what]);
        }
    }
}
