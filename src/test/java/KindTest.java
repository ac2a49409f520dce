/** Promises 28 to 32: MARKS, IMAGES, counts, THE TRACE. */
public final class KindTest {
    private static final int[] WILD = {-1, Integer.MIN_VALUE, Integer.MAX_VALUE, 6};

    public static void main(String[] args) {
        mark();
        keepAndBack();
        imagesKeepWhatMayBeUndone();
        count();
        Due.end();
    }

    private static void mark() {
        FifthsOfGuilt x = Due.told("s 3;s 7;s 4;f 1 10 9 11 9;f 1 10 9 9 9;f 1 10 9 9 9;a 2 0 8 8;a 2 1 9 9;a 1 0 20 21;");
        x.find(0, 1);
        x.find(2, 1);
        x.hear(0, 1);
        // 1: held 9, grudge 7, one alibi. 2: held 3, grudge 4, two alibis.
        int[][] due = {{9, 16, 8, 32, 9, 11}, {3, 7, 1, 14, 3, 5}};
        long[] asked = {1, 11, 101, 1011, 10101, 100001};
        long trace = 0;
        for (int s = 1; s <= 2; s++) {
            for (int kind = 0; kind <= 5; kind++) {
                Due.is("mark(" + kind + ", " + s + ")", x.mark(kind, s), due[s - 1][kind]);
                trace += asked[kind];
                Due.is("trace() of " + kind, x.trace(), trace);
            }
        }
        for (int wild : WILD) {
            Due.is("mark(" + wild + ", 0)", x.mark(wild, 0), -1000000);
            Due.is("mark(0, " + wild + ")", x.mark(0, wild), -1000000);
        }
        Due.is("mark(0, 3)", x.mark(0, 3), -1000000);
        x.suspect(0, 1);
        x.now(0);
        Due.is("trace(): by good marks alone", x.trace(), trace);
        x = Due.told("s 0;a 0 0 0 0;a 0 0 0 0;");
        Due.is("below 0", x.mark(2, 0), -2);
        Due.is("below 0, a juror", x.mark(4, 0), -2);
    }

    private static void keepAndBack() {
        FifthsOfGuilt x = Due.told("s 9;f 1 10 18;a 0 0 8 9;");
        Due.is("back(0): none kept", x.back(0), -2);
        Due.is("keep(2)", x.keep(2), -1);
        Due.is("back(2)", x.back(2), -1);
        for (int wild : WILD) {
            Due.is("keep(" + wild + ")", x.keep(wild), -1);
            Due.is("back(" + wild + ")", x.back(wild), -1);
        }
        x.find(0, 1);
        Due.is("keep(0)", x.keep(0), 18);
        Due.is("back(1): none kept", x.back(1), -2);
        x.hear(0, 1);
        x.days(20);
        x.book(0, 20);
        x.mark(0, 0);
        x.type(50);
        Due.is("keep(1)", x.keep(1), 16);
        Due.is("back(0)", x.back(0), 18);
        Due.is("now(1)", x.now(1), 1);
        Due.is("now(2)", x.now(2), 0);
        Due.is("now(3)", x.now(3), 10);
        Due.is("count(3): the book stays", x.count(3), 1);
        Due.is("count(4)", x.count(4), 1);
        Due.is("count(5): the text stays", x.count(5), 1);
        Due.is("trace() stays", x.trace(), 1);
        Due.is("back(1)", x.back(1), 16);
        Due.is("now(3)", x.now(3), 20);
        Due.is("count(4)", x.count(4), 3);
        x.undo();
        Due.is("keep(0) again", x.keep(0), 16);
        x.find(0, 0);
        Due.is("back(0) to what was kept last", x.back(0), 16);
        Due.is("now(3)", x.now(3), 10);
    }

    private static void imagesKeepWhatMayBeUndone() {
        FifthsOfGuilt x = Due.told("s 9;d 1;");
        x.days(2);
        x.days(3);
        x.keep(0);
        x.undo();
        x.days(7);
        x.days(8);
        x.back(0);
        Due.is("undo()", x.undo(), 1);
        Due.is("now(3)", x.now(3), 2);
        Due.is("undo()", x.undo(), 0);
        Due.is("now(3)", x.now(3), 1);
        Due.is("undo()", x.undo(), -2);
        x.days(50);
        Due.is("back(0) once more", x.back(0), 9);
        Due.is("undo(): an image is not worn", x.undo(), 1);
        Due.is("now(3)", x.now(3), 2);
    }

    private static void count() {
        FifthsOfGuilt x = Due.told("s 9;s 9;s 9;f 1 1 9 9 9;f 1 1 9 9 9;a 0 0 8 9;");
        x.type(1);
        x.type(1);
        x.type(1);
        x.type(1);
        x.book(1, 1);
        x.find(0, 1);
        x.find(0, 0);
        x.hear(0, 1);
        x.days(9);
        x.days(8);
        int[] due = {3, 2, 1, 1, 5, 4};
        for (int what = 0; what <= 5; what++) {
            Due.is("count(" + what + ")", x.count(what), due[what]);
        }
        for (int wild : WILD) {
            Due.is("count(" + wild + ")", x.count(wild), -1);
        }
    }
}
