import java.lang.management.ManagementFactory;

/** All calls of a run live in one room: what is made is counted, and calls make nothing. */
public final class RoomTest {
    private static final String FULL_CASE = "s9;s20;s1;s7;s13;s5;f1 9 1 2 3 4 5 6;f2 9 1 2 3 4 5 6;f3 9 1 2 3 4 5 6;"
        + "f4 9 1 2 3 4 5 6;f5 9 9 9 9 9 9 9;f6 9 9 2 9 4 9 6;f7 9 9 2 9 4 9 6;f8 9 9 2 9 4 9 6;";

    public static void main(String[] args) {
        callsMakeNothing();
        Due.end();
    }

    private static long made() {
        return ((com.sun.management.ThreadMXBean) ManagementFactory.getThreadMXBean())
            .getThreadAllocatedBytes(Thread.currentThread().getId());
    }

    private static void everyCall(FifthsOfGuilt x, int i) {
        x.find(i % 8, i / 8 % 2);
        x.hear(i % 8, i / 8 % 2);
        x.days(i % 60);
        x.undo();
        x.share(i % 6, 0);
        x.suspect(i % 6, 2);
        x.fact(0, 0);
        x.moves(0, 0);
        x.alibi(0, 0);
        x.now(4);
        x.proof(i % 6, 3, 5, 0);
        x.cleared(i % 6, 3, 5, 0);
        x.forged(i % 6, 1, 9);
        x.clash(1);
        x.rests(0);
        x.gains(5);
        x.cellsFor(30);
        x.sits(30, 1, 1);
        x.wronged(-1);
        x.book(i % 6, 3);
        x.books(2);
        x.burn();
        x.innocent(0);
        x.mark(i % 6, 0);
        x.keep(0);
        x.back(0);
        x.count(0);
        x.trace();
    }

    private static void everyText(FifthsOfGuilt x, char[] text) {
        x.clear();
        for (int i = 0; i < text.length; i++) {
            x.type(text[i]);
        }
        x.court();
    }

    private static void callsMakeNothing() {
        FifthsOfGuilt x = new FifthsOfGuilt();
        char[] text = FULL_CASE.toCharArray();
        everyText(x, text);
        everyCall(x, 0);
        made();
        long before = made();
        for (int i = 0; i < 500; i++) {
            if (i % 20 == 0) {
                everyText(x, text);
            }
            everyCall(x, i);
        }
        long bytes = made() - before;
        // Asking itself may make a little; one int a call would be far above this.
        Due.is("the full case is read", x.count(1), 8);
        Due.is("bytes made by 14000 calls, by ten thousands (" + bytes + ")", bytes / 10000, 0);
        before = made();
        FifthsOfGuilt y = new FifthsOfGuilt();
        bytes = made() - before;
        Due.is("a new object's bytes, by ten thousands (" + bytes + ")", bytes / 10000, 0);
        Due.is("it stands", y.count(0), 0);
    }
}
