import java.util.ArrayList;
import java.util.List;

/**
 * "Refused, and nothing changes, the first of these: BAD (a number is not as told, or there is no such
 * thing), STATE (as told), FULL." Every call, every number of it too small and too large, on a court
 * in which there is something of everything, and on one in which there is nothing.
 */
public final class RefusedTest {
    private static final int BAD = -1;
    private static final int STATE = -2;
    private static final int FULL = -3;
    private static final int NO = -1000000;

    /** A call by its numbers. */
    private interface Numbered {
        long on(FifthsOfGuilt x, int[] numbers);
    }

    /** A call with numbers that are good in busy(), and what each may be there. */
    private record Told(String name, int refusal, int[][] ranges, Numbered call) {
        String with(int[] numbers) {
            List<String> each = new ArrayList<>();
            for (int n : numbers) {
                each.add(Integer.toString(n));
            }
            return name + "(" + String.join(", ", each) + ")";
        }
    }

    public static void main(String[] args) {
        for (Told told : calls()) {
            numbersNotAsTold(told);
            noSuchThing(told);
        }
        numbersThatDependOnOthers();
        goneWithAnOlderCase();
        stateOfFind();
        stateOfHear();
        stateOfDays();
        stateOfUndo();
        stateOfShare();
        stateOfBack();
        fullText();
        fullBook();
        faultsOfCourt();
        askingChangesNothing();
        Due.end();
    }

    // ---- BAD

    private static int[] range(int good, int least, int most) {
        return new int[] {good, least, most};
    }

    private static int[] suspects() {
        return range(1, 0, 2);
    }

    private static List<Told> calls() {
        List<Told> all = new ArrayList<>();
        add(all, "type", BAD, (x, n) -> x.type(n[0]), range(65, 0, 255));
        add(all, "suspect", BAD, (x, n) -> x.suspect(n[0], n[1]), suspects(), range(1, 0, 3));
        add(all, "fact", BAD, (x, n) -> x.fact(n[0], n[1]), range(1, 0, 2), range(1, 0, 2));
        add(all, "moves", NO, (x, n) -> x.moves(n[0], n[1]), range(1, 0, 2), suspects());
        add(all, "alibi", BAD, (x, n) -> x.alibi(n[0], n[1]), range(1, 0, 2), range(1, 0, 4));
        add(all, "find", BAD, (x, n) -> x.find(n[0], n[1]), range(0, 0, 2), range(1, 0, 1));
        add(all, "hear", BAD, (x, n) -> x.hear(n[0], n[1]), range(0, 0, 2), range(1, 0, 1));
        add(all, "days", BAD, (x, n) -> x.days(n[0]), range(31, 0, 60));
        add(all, "share", BAD, (x, n) -> x.share(n[0], n[1]), suspects(), range(1, 0, 1));
        add(all, "now", BAD, (x, n) -> x.now(n[0]), range(1, 0, 4));
        add(all, "proof", BAD, (x, n) -> x.proof(n[0], n[1], n[2], n[3]), suspects(), range(5, 0, 20),
            range(20, 1, 20), range(1, 0, 1));
        add(all, "cleared", BAD, (x, n) -> x.cleared(n[0], n[1], n[2], n[3]), suspects(), range(5, 0, 20),
            range(20, 1, 20), range(1, 0, 1));
        add(all, "forged", BAD, (x, n) -> x.forged(n[0], n[1], n[2]), suspects(), range(5, 0, 20), range(20, 1, 20));
        add(all, "clash", BAD, (x, n) -> x.clash(n[0]), range(1, 0, 1));
        add(all, "rests", BAD, (x, n) -> x.rests(n[0]), range(1, 0, 1));
        add(all, "gains", BAD, (x, n) -> x.gains(n[0]), range(1, 0, 7));
        add(all, "cellsFor", BAD, (x, n) -> x.cellsFor(n[0]), range(30, 1, 60));
        add(all, "sits", BAD, (x, n) -> x.sits(n[0], n[1], n[2]), range(60, 1, 60), suspects(), range(0, 0, 59));
        add(all, "wronged", NO, (x, n) -> x.wronged(n[0]), range(1, -1, 2));
        add(all, "book", BAD, (x, n) -> x.book(n[0], n[1]), suspects(), range(7, 0, 60));
        add(all, "books", BAD, (x, n) -> x.books(n[0]), range(1, 0, 2));
        add(all, "innocent", BAD, (x, n) -> x.innocent(n[0]), suspects());
        add(all, "mark", NO, (x, n) -> x.mark(n[0], n[1]), range(3, 0, 5), suspects());
        add(all, "keep", BAD, (x, n) -> x.keep(n[0]), range(1, 0, 1));
        add(all, "back", BAD, (x, n) -> x.back(n[0]), range(0, 0, 1));
        add(all, "count", BAD, (x, n) -> x.count(n[0]), range(1, 0, 5));
        return all;
    }

    private static void add(List<Told> all, String name, int refusal, Numbered call, int[]... ranges) {
        all.add(new Told(name, refusal, ranges, call));
    }

    private static int[] good(Told told) {
        int[] numbers = new int[told.ranges.length];
        for (int i = 0; i < numbers.length; i++) {
            numbers[i] = told.ranges[i][0];
        }
        return numbers;
    }

    private static void refusedInBusy(Told told, int[] numbers) {
        Twin.unchanged(told.with(numbers), Twin::busy, x -> told.call.on(x, numbers), told.refusal);
    }

    /** Each number just outside, far outside, and where it would be good if its upper bits were lost. */
    private static void numbersNotAsTold(Told told) {
        for (int i = 0; i < told.ranges.length; i++) {
            int least = told.ranges[i][1];
            int most = told.ranges[i][2];
            int well = told.ranges[i][0];
            int[] tries = {least - 1, most + 1, Integer.MIN_VALUE, Integer.MAX_VALUE, well + 32, well - 32,
                well + 256, well - 256, well + 65536, well ^ Integer.MIN_VALUE, -well - 2};
            for (int wrong : tries) {
                if (wrong >= least && wrong <= most) {
                    continue;
                }
                int[] numbers = good(told);
                numbers[i] = wrong;
                refusedInBusy(told, numbers);
            }
            edgesAreTaken(told, i, least);
            edgesAreTaken(told, i, most);
        }
        int[] allWrong = good(told);
        for (int i = 0; i < allWrong.length; i++) {
            allWrong[i] = told.ranges[i][2] + 1;
        }
        refusedInBusy(told, allWrong);
    }

    private static void edgesAreTaken(Told told, int i, int edge) {
        int[] numbers = good(told);
        numbers[i] = edge;
        boolean fraction = told.name.equals("proof") || told.name.equals("cleared") || told.name.equals("forged");
        if (fraction && i == 2) {
            numbers[1] = Math.min(numbers[1], edge);
        }
        if (told.name.equals("sits") && i == 0) {
            numbers[2] = Math.min(numbers[2], edge - 1);
        }
        FifthsOfGuilt x = new FifthsOfGuilt();
        Twin.busy(x);
        long answer = told.call.on(x, numbers);
        Due.is(told.with(numbers) + " is not refused, but answers " + answer, answer == told.refusal ? 0 : 1, 1);
    }

    /** In a new court there is no SUSPECT, FACT or ALIBI, so calls that name one are refused. */
    private static void noSuchThing(Told told) {
        String first = switch (told.name) {
            case "suspect", "share", "proof", "cleared", "forged", "book", "innocent", "fact", "moves", "alibi",
                "find", "hear" -> "0";
            case "sits", "mark" -> "1";
            default -> "";
        };
        if (first.isEmpty()) {
            return;
        }
        int[] numbers = good(told);
        numbers[Integer.parseInt(first)] = 0;
        Twin.unchanged("new: " + told.with(numbers), x -> { }, x -> told.call.on(x, numbers), told.refusal);
    }

    /** What one number may be is told by another one, or by what there is. */
    private static void numbersThatDependOnOthers() {
        Twin.unchanged("proof(0, 2, 1, 0): p above q", Twin::busy, x -> x.proof(0, 2, 1, 0), BAD);
        Twin.unchanged("proof(0, 20, 19, 0): p above q", Twin::busy, x -> x.proof(0, 20, 19, 0), BAD);
        Twin.unchanged("cleared(0, 2, 1, 0): p above q", Twin::busy, x -> x.cleared(0, 2, 1, 0), BAD);
        Twin.unchanged("cleared(0, 20, 19, 1): p above q", Twin::busy, x -> x.cleared(0, 20, 19, 1), BAD);
        Twin.unchanged("forged(0, 2, 1): p above q", Twin::busy, x -> x.forged(0, 2, 1), BAD);
        Twin.unchanged("forged(0, 20, 19): p above q", Twin::busy, x -> x.forged(0, 20, 19), BAD);
        Twin.unchanged("forged(0, 0, 0)", Twin::busy, x -> x.forged(0, 0, 0), BAD);
        Twin.unchanged("sits(59, 0, 59): no such day", Twin::busy, x -> x.sits(59, 0, 59), BAD);
        Twin.unchanged("sits(1, 0, 1): no such day, though no cells will do", Twin::busy, x -> x.sits(1, 0, 1), BAD);
        Twin.unchanged("new: gains(1): bits of none", x -> { }, x -> x.gains(1), BAD);
        Twin.unchanged("new: gains(0)", x -> { }, x -> x.gains(0), -9);
        Twin.unchanged("gains(8): bits of none", Twin::busy, x -> x.gains(8), BAD);
        Twin.unchanged("gains(9): one bit of none", Twin::busy, x -> x.gains(9), BAD);
        Twin.unchanged("new: wronged(0)", x -> { }, x -> x.wronged(0), NO);
        Twin.unchanged("new: wronged(-1)", x -> { }, x -> x.wronged(-1), 0);
    }

    /** What there was in an older case is no such thing any more. */
    private static void goneWithAnOlderCase() {
        Twin.Calls less = x -> {
            Twin.busy(x);
            Due.read(x, "s4;f1 1 9;a0 0 0 0;");
        };
        Twin.unchanged("suspect(1, 0) is gone", less, x -> x.suspect(1, 0), BAD);
        Twin.unchanged("fact(1, 0) is gone", less, x -> x.fact(1, 0), BAD);
        Twin.unchanged("moves(1, 0) is gone", less, x -> x.moves(1, 0), NO);
        Twin.unchanged("moves(0, 1) is gone", less, x -> x.moves(0, 1), NO);
        Twin.unchanged("alibi(1, 0) is gone", less, x -> x.alibi(1, 0), BAD);
        Twin.unchanged("find(1, 1) is gone", less, x -> x.find(1, 1), BAD);
        Twin.unchanged("hear(1, 1) is gone", less, x -> x.hear(1, 1), BAD);
        Twin.unchanged("share(1, 0) is gone", less, x -> x.share(1, 0), BAD);
        Twin.unchanged("proof(1, 1, 2, 0) is gone", less, x -> x.proof(1, 1, 2, 0), BAD);
        Twin.unchanged("cleared(1, 1, 2, 0) is gone", less, x -> x.cleared(1, 1, 2, 0), BAD);
        Twin.unchanged("forged(1, 1, 2) is gone", less, x -> x.forged(1, 1, 2), BAD);
        Twin.unchanged("gains(2) is gone", less, x -> x.gains(2), BAD);
        Twin.unchanged("sits(60, 1, 0) is gone", less, x -> x.sits(60, 1, 0), BAD);
        Twin.unchanged("wronged(1) is gone", less, x -> x.wronged(1), NO);
        Twin.unchanged("book(1, 0) is gone", less, x -> x.book(1, 0), BAD);
        Twin.unchanged("innocent(1) is gone", less, x -> x.innocent(1), BAD);
        Twin.unchanged("mark(0, 1) is gone", less, x -> x.mark(0, 1), NO);
    }

    // ---- STATE

    private static void stateOfFind() {
        Twin.unchanged("find(1, 1): it is so", Twin::busy, x -> x.find(1, 1), STATE);
        Twin.unchanged("find(0, 0): it is so again", Twin::busy, x -> x.find(0, 0), STATE);
        Twin.unchanged("find(2, 0): it was never found", Twin::busy, x -> x.find(2, 0), STATE);
        Twin.unchanged("find(3, 0): BAD first", Twin::busy, x -> x.find(3, 0), BAD);
        Twin.unchanged("find(1, 3): BAD first", Twin::busy, x -> x.find(1, 3), BAD);
        Twin.unchanged("find(1, -1): BAD first", Twin::busy, x -> x.find(1, -1), BAD);
    }

    private static void stateOfHear() {
        Twin.unchanged("hear(1, 1): it is so", Twin::busy, x -> x.hear(1, 1), STATE);
        Twin.unchanged("hear(0, 0): it was never heard", Twin::busy, x -> x.hear(0, 0), STATE);
        Twin.unchanged("hear(3, 0): BAD first", Twin::busy, x -> x.hear(3, 0), BAD);
        Twin.unchanged("hear(1, 3): BAD first", Twin::busy, x -> x.hear(1, 3), BAD);
        Twin.unchanged("hear(1, -1): BAD first", Twin::busy, x -> x.hear(1, -1), BAD);
    }

    private static void stateOfDays() {
        Twin.unchanged("days(30): they are", Twin::busy, x -> x.days(30), STATE);
        Twin.unchanged("new: days(10): they are", x -> { }, x -> x.days(10), STATE);
        Twin.unchanged("days(0): they are", x -> x.days(0), x -> x.days(0), STATE);
        Twin.unchanged("days(60): they are", x -> x.days(60), x -> x.days(60), STATE);
    }

    private static void stateOfUndo() {
        Twin.unchanged("new: undo(): none", x -> { }, FifthsOfGuilt::undo, STATE);
        Twin.unchanged("undo(): all is undone", x -> {
            Twin.busy(x);
            for (int i = 0; i < 5; i++) {
                x.undo();
            }
        }, FifthsOfGuilt::undo, STATE);
        Twin.unchanged("undo(): read anew", x -> {
            Twin.busy(x);
            Due.read(x, "s1;d5;");
        }, FifthsOfGuilt::undo, STATE);
    }

    private static void fallen(FifthsOfGuilt x) {
        Due.type(x, "s3;s0;f1 10 0 9;");
        x.court();
        x.find(0, 1);
        x.keep(1);
    }

    private static void stateOfShare() {
        Twin.unchanged("share(0, 0): the case falls", RefusedTest::fallen, x -> x.share(0, 0), STATE);
        Twin.unchanged("share(1, 1): the case falls", RefusedTest::fallen, x -> x.share(1, 1), STATE);
        Twin.unchanged("share(2, 0): BAD first", RefusedTest::fallen, x -> x.share(2, 0), BAD);
        Twin.unchanged("share(-1, 0): BAD first", RefusedTest::fallen, x -> x.share(-1, 0), BAD);
        Twin.unchanged("share(0, 2): BAD first", RefusedTest::fallen, x -> x.share(0, 2), BAD);
        Twin.unchanged("share(0, -1): BAD first", RefusedTest::fallen, x -> x.share(0, -1), BAD);
        Twin.unchanged("new: share(0, 0): BAD first", x -> { }, x -> x.share(0, 0), BAD);
    }

    private static void stateOfBack() {
        Twin.unchanged("back(1): none was kept", Twin::busy, x -> x.back(1), STATE);
        Twin.unchanged("new: back(0): none was kept", x -> { }, x -> x.back(0), STATE);
        Twin.unchanged("back(0): the other was kept", RefusedTest::fallen, x -> x.back(0), STATE);
        Twin.unchanged("new: back(2): BAD first", x -> { }, x -> x.back(2), BAD);
        Twin.unchanged("new: back(-1): BAD first", x -> { }, x -> x.back(-1), BAD);
    }

    // ---- FULL

    private static void fullText(FifthsOfGuilt x) {
        x.clear();
        Due.type(x, "s1;" + " ".repeat(190) + "d 33; a");
    }

    private static void fullText() {
        Twin.unchanged("type(59) of 200 bytes", RefusedTest::fullText, x -> x.type(59), FULL);
        Twin.unchanged("type(0) of 200 bytes", RefusedTest::fullText, x -> x.type(0), FULL);
        Twin.unchanged("type(255) of 200 bytes", RefusedTest::fullText, x -> x.type(255), FULL);
        Twin.unchanged("type(256) of 200 bytes: BAD first", RefusedTest::fullText, x -> x.type(256), BAD);
        Twin.unchanged("type(-1) of 200 bytes: BAD first", RefusedTest::fullText, x -> x.type(-1), BAD);
    }

    private static void fullBook(FifthsOfGuilt x) {
        Twin.busy(x);
        for (int line = 3; line <= 6; line++) {
            x.book(1, 22);
        }
    }

    private static void fullBook() {
        Twin.unchanged("book(1, 22) of 6 lines", RefusedTest::fullBook, x -> x.book(1, 22), FULL);
        Twin.unchanged("book(0, 0) of 6 lines", RefusedTest::fullBook, x -> x.book(0, 0), FULL);
        Twin.unchanged("book(3, 0) of 6 lines: BAD first", RefusedTest::fullBook, x -> x.book(3, 0), BAD);
        Twin.unchanged("book(-1, 0) of 6 lines: BAD first", RefusedTest::fullBook, x -> x.book(-1, 0), BAD);
        Twin.unchanged("book(0, 61) of 6 lines: BAD first", RefusedTest::fullBook, x -> x.book(0, 61), BAD);
        Twin.unchanged("book(0, -1) of 6 lines: BAD first", RefusedTest::fullBook, x -> x.book(0, -1), BAD);
    }

    // ---- court(): "-10 less FAULT: nothing changes."

    private static void faultOfCourt(String text, int place) {
        Twin.unchanged("court() of '" + text + "'", x -> {
            Twin.busy(x);
            x.clear();
            Due.type(x, text);
        }, FifthsOfGuilt::court, -10 - place);
    }

    private static void faultsOfCourt() {
        faultOfCourt("!", 0);
        faultOfCourt("s20;s20;s20;s20;s20;s20;f9 0 0 0 0 0 0 0;a5 3 23 23;t23 23;d0;x", 62);
        faultOfCourt("s1;s2;d3;t0 0;s21;", 15);
        faultOfCourt("s1;s2;s3;s4;s5;s6;s7;", 18);
        faultOfCourt("f9 9;f9 9;f9 9;f9 9;f9 9;f9 9;f9 9;f9 9;f9 9;", 40);
        faultOfCourt("s1;s1;a1 1 1 1;a1 1 1 1;a1 1 1 1;a1 1 1 1;a1 1 1 1;a1 1 1 1;a1 1 1 1;a1 1 1 1;a1", 78);
        faultOfCourt("t0 0;t1 1;", 5);
        faultOfCourt("t9 8;", 3);
        faultOfCourt("d0;d1;", 3);
        faultOfCourt("d100;", 1);
        faultOfCourt("d01;", 1);
        faultOfCourt("s1;d5", 5);
        faultOfCourt("s1;d5;t", 7);
    }

    // ---- "(Nothing is changed.)"

    private static void onlyAsked(String name, Twin.Call call) {
        FifthsOfGuilt x = new FifthsOfGuilt();
        Twin.busy(x);
        Twin.unchanged(name + " only asks", Twin::busy, call, call.on(x));
    }

    private static void askingChangesNothing() {
        onlyAsked("suspect", x -> x.suspect(0, 2));
        onlyAsked("fact", x -> x.fact(0, 2));
        onlyAsked("moves", x -> x.moves(0, 0));
        onlyAsked("alibi", x -> x.alibi(0, 4));
        onlyAsked("share", x -> x.share(0, 1));
        onlyAsked("now", x -> x.now(4));
        onlyAsked("proof", x -> x.proof(1, 2, 3, 1));
        onlyAsked("proof of none", x -> x.proof(2, 1, 1, 1));
        onlyAsked("cleared", x -> x.cleared(1, 1, 3, 1));
        onlyAsked("forged", x -> x.forged(1, 1, 3));
        onlyAsked("clash", x -> x.clash(1));
        onlyAsked("rests", x -> x.rests(1));
        onlyAsked("gains", x -> x.gains(7));
        onlyAsked("cellsFor", x -> x.cellsFor(60));
        onlyAsked("sits", x -> x.sits(60, 0, 0));
        onlyAsked("wronged", x -> x.wronged(-1));
        onlyAsked("books", x -> x.books(2));
        onlyAsked("innocent", x -> x.innocent(0));
        onlyAsked("count", x -> x.count(5));
        onlyAsked("trace", FifthsOfGuilt::trace);
    }
}
