/**
 * "An object is used for at most 512 calls after it has been made": the boundary cases at the end of long
 * runs of calls, each of them 512 calls long on one object.
 */
public final class LongRunTest {
    private static final int CALLS = 512;

    private final String run;
    private final FifthsOfGuilt x = new FifthsOfGuilt();
    private int calls;

    private LongRunTest(String run) {
        this.run = run;
    }

    public static void main(String[] args) {
        manyBytes();
        manyTexts();
        manyFaults();
        manyChanges();
        manyFacts();
        manyAlibis();
        manyUndone();
        manyBooks();
        manyMarks();
        manyImages();
        manyRefusals();
        manyQuestions();
        Due.end();
    }

    private void due(String call, long got, long want) {
        calls++;
        Due.is(run + ", call " + calls + ": " + call, got, want);
    }

    private void read(String text, int items) {
        for (int i = 0; i < text.length(); i++) {
            due("type", x.type(text.charAt(i)), i + 1);
        }
        due("court()", x.court(), items);
    }

    private boolean goesOn(int more) {
        return calls + more <= CALLS;
    }

    /** What is left of the 512 calls is filled up, so that the last is the 512th. */
    private void end(int last) {
        while (goesOn(last + 1)) {
            due("count(-1)", x.count(-1), -1);
        }
    }

    private static void manyBytes() {
        LongRunTest r = new LongRunTest("many bytes");
        for (int i = 1; i <= 200; i++) {
            r.due("type(255)", r.x.type(255), i);
        }
        for (int i = 0; i < 50; i++) {
            r.due("type(0) of a full text", r.x.type(0), -3);
        }
        r.due("court()", r.x.court(), -10);
        r.due("clear()", r.x.clear(), 200);
        for (int i = 1; i <= 200; i++) {
            r.due("type(32)", r.x.type(32), i);
        }
        r.due("type(32) of a full text", r.x.type(32), -3);
        r.end(2);
        r.due("court()", r.x.court(), 0);
        r.due("count(5)", r.x.count(5), 0);
    }

    private static void manyTexts() {
        LongRunTest r = new LongRunTest("many texts");
        while (r.goesOn(40)) {
            r.read("s9;f1 9 0;a0 0 8 8;", 3);
            r.due("find(0, 1)", r.x.find(0, 1), 1);
            r.due("undo()", r.x.undo(), 0);
            r.due("back(0)", r.x.back(0), -2);
            r.due("keep(0)", r.x.keep(0), 9);
            r.due("book(0, 60)", r.x.book(0, 60), 1);
            r.read("d0;", 1);
            r.due("count(0)", r.x.count(0), 0);
            r.due("now(3)", r.x.now(3), 0);
        }
        r.end(1);
        r.due("count(1)", r.x.count(1), 0);
    }

    private static void manyFaults() {
        LongRunTest r = new LongRunTest("many faults");
        r.read("s9;d33;", 2);
        r.due("keep(1)", r.x.keep(1), 9);
        r.due("days(34)", r.x.days(34), 33);
        while (r.goesOn(20)) {
            r.read("s1;d2;d3", -16);
            r.due("clear()", r.x.clear(), 8);
            r.read("s21;", -11);
            r.due("clear()", r.x.clear(), 4);
        }
        r.end(4);
        r.due("now(0)", r.x.now(0), 9);
        r.due("now(3)", r.x.now(3), 34);
        r.due("undo()", r.x.undo(), 0);
        r.due("back(1)", r.x.back(1), 9);
    }

    private static void manyChanges() {
        LongRunTest r = new LongRunTest("many changes");
        int was = 10;
        for (int i = 0; r.goesOn(33); i++) {
            int n = (i * 7 + 1) % 61;
            r.due("days(" + n + ")", r.x.days(n), was);
            was = n;
        }
        int last = r.calls - 1;
        r.due("count(4)", r.x.count(4), 10);
        for (int left = 9; left >= 0; left--) {
            r.due("undo()", r.x.undo(), left);
            last--;
            r.due("now(3)", r.x.now(3), (last * 7 + 1) % 61);
        }
        r.end(1);
        r.due("undo()", r.x.undo(), -2);
    }

    private static void manyFacts() {
        LongRunTest r = new LongRunTest("many facts");
        r.read("s9;f1 10 18;f1 10 0;", 3);
        while (r.goesOn(12)) {
            r.due("find(0, 1)", r.x.find(0, 1), 18);
            r.due("find(0, 1)", r.x.find(0, 1), -2);
            r.due("find(1, 1)", r.x.find(1, 1), 9);
            r.due("find(0, 0)", r.x.find(0, 0), 0);
            r.due("share(0, 0)", r.x.share(0, 0), -2);
            r.due("find(1, 0)", r.x.find(1, 0), 9);
            r.due("find(1, 0)", r.x.find(1, 0), -2);
            r.due("find(2, 0)", r.x.find(2, 0), -1);
        }
        r.end(2);
        r.due("count(4)", r.x.count(4), 10);
        r.due("now(1)", r.x.now(1), 0);
    }

    private static void manyAlibis() {
        LongRunTest r = new LongRunTest("many alibis");
        r.read("s4;a0 0 8 9;a0 0 9 11;", 3);
        while (r.goesOn(12)) {
            r.due("hear(0, 1)", r.x.hear(0, 1), 2);
            r.due("hear(0, 1)", r.x.hear(0, 1), -2);
            r.due("hear(1, 1)", r.x.hear(1, 1), 0);
            r.due("now(4)", r.x.now(4), 0);
            r.due("hear(0, 0)", r.x.hear(0, 0), 1);
            r.due("hear(1, 0)", r.x.hear(1, 0), 4);
            r.due("hear(1, 0)", r.x.hear(1, 0), -2);
            r.due("hear(2, 0)", r.x.hear(2, 0), -1);
        }
        r.end(2);
        r.due("count(4)", r.x.count(4), 10);
        r.due("now(2)", r.x.now(2), 0);
    }

    private static void manyUndone() {
        LongRunTest r = new LongRunTest("many undone");
        r.read("s9;f1 10 18;", 2);
        while (r.goesOn(40)) {
            for (int n = 0; n < 6; n++) {
                r.due("find", r.x.find(0, 1), 18);
                r.due("find", r.x.find(0, 0), 9);
            }
            r.due("days(60)", r.x.days(60), 10);
            for (int left = 9; left >= 0; left--) {
                r.due("undo()", r.x.undo(), left);
            }
            r.due("undo()", r.x.undo(), -2);
            r.due("now(1): the oldest are lost", r.x.now(1), 1);
            r.due("now(3)", r.x.now(3), 10);
            r.due("find(0, 0)", r.x.find(0, 0), 9);
            r.due("undo()", r.x.undo(), 0);
            r.due("find(0, 0)", r.x.find(0, 0), 9);
        }
        r.end(1);
        r.due("count(4)", r.x.count(4), 1);
    }

    private static void manyBooks() {
        LongRunTest r = new LongRunTest("many books");
        r.read("s9;d60;", 2);
        while (r.goesOn(12)) {
            for (int line = 1; line <= 6; line++) {
                r.due("book(0, 60)", r.x.book(0, 60), line);
            }
            r.due("book(0, 60) of a full book", r.x.book(0, 60), -3);
            r.due("books(0)", r.x.books(0), 1);
            r.due("burn()", r.x.burn(), 6);
            r.due("burn()", r.x.burn(), 0);
        }
        r.end(1);
        r.due("count(3)", r.x.count(3), 0);
    }

    private static void manyMarks() {
        LongRunTest r = new LongRunTest("many marks");
        r.read("s9;", 1);
        long marks = 0;
        while (r.goesOn(3)) {
            r.due("mark(5, 0)", r.x.mark(5, 0), 9);
            r.due("mark(4, 0)", r.x.mark(4, 0), 9);
            marks++;
        }
        r.end(1);
        r.due("trace()", r.x.trace(), marks * 110102);
    }

    private static void manyImages() {
        LongRunTest r = new LongRunTest("many images");
        r.read("s9;d0;", 2);
        r.due("days(1)", r.x.days(1), 0);
        r.due("keep(0)", r.x.keep(0), 9);
        while (r.goesOn(20)) {
            r.due("days(2)", r.x.days(2), 1);
            r.due("keep(1)", r.x.keep(1), 9);
            r.due("undo()", r.x.undo(), 1);
            r.due("undo()", r.x.undo(), 0);
            r.due("back(1)", r.x.back(1), 9);
            r.due("now(3)", r.x.now(3), 2);
            r.due("count(4)", r.x.count(4), 2);
            r.due("back(0)", r.x.back(0), 9);
            r.due("now(3)", r.x.now(3), 1);
            r.due("count(4)", r.x.count(4), 1);
        }
        r.end(3);
        r.due("undo()", r.x.undo(), 0);
        r.due("undo()", r.x.undo(), -2);
        r.due("back(1)", r.x.back(1), 9);
    }

    private static void manyRefusals() {
        LongRunTest r = new LongRunTest("many refusals");
        r.read("s9;f1 10 18;a0 0 8 8;", 3);
        while (r.goesOn(20)) {
            r.due("undo()", r.x.undo(), -2);
            r.due("back(0)", r.x.back(0), -2);
            r.due("days(10)", r.x.days(10), -2);
            r.due("days(61)", r.x.days(61), -1);
            r.due("find(0, 0)", r.x.find(0, 0), -2);
            r.due("hear(0, 0)", r.x.hear(0, 0), -2);
            r.due("book(1, 0)", r.x.book(1, 0), -1);
            r.due("keep(2)", r.x.keep(2), -1);
            r.due("mark(6, 0)", r.x.mark(6, 0), -1000000);
            r.due("type(256)", r.x.type(256), -1);
            r.due("wronged(-2)", r.x.wronged(-2), -1000000);
            r.due("sits(60, 0, 60)", r.x.sits(60, 0, 60), -1);
        }
        r.end(5);
        r.due("trace()", r.x.trace(), 0);
        r.due("count(3)", r.x.count(3), 0);
        r.due("count(5)", r.x.count(5), 0);
        r.due("now(0)", r.x.now(0), 9);
        r.due("now(3)", r.x.now(3), 10);
    }

    private static void manyQuestions() {
        LongRunTest r = new LongRunTest("many questions");
        r.read("s7;s5;f2 10 9 0;f3 10 0 9;a0 0 8 9;a0 1 9 10;", 6);
        while (r.goesOn(20)) {
            r.due("proof(0, 1, 1, 1)", r.x.proof(0, 1, 1, 1), 1);
            r.due("cleared(0, 0, 1, 0)", r.x.cleared(0, 0, 1, 0), 3);
            r.due("forged(0, 0, 1)", r.x.forged(0, 0, 1), 7);
            r.due("clash(1)", r.x.clash(1), 1);
            r.due("rests(1)", r.x.rests(1), 3);
            r.due("gains(3)", r.x.gains(3), -9);
            r.due("cellsFor(6)", r.x.cellsFor(6), 2);
            r.due("sits(6, 1, 5)", r.x.sits(6, 1, 5), -9);
            r.due("wronged(-1)", r.x.wronged(-1), 5);
            r.due("books(2)", r.x.books(2), 0);
            r.due("innocent(1)", r.x.innocent(1), 2);
        }
        r.end(2);
        r.due("now(0)", r.x.now(0), 12);
        r.due("count(4)", r.x.count(4), 0);
    }
}
