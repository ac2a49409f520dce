import java.util.Random;

/**
 * All promises: runs of calls drawn by fixed seeds, wrong inputs among them, each answer held against
 * SlowCourt's. No call may throw, so none is caught.
 */
public final class OracleTest {
    private static final int RUNS = 400;
    private static final int CALLS = 512;
    private static final String ODD_BYTES = "sfatdx;  0123456789;sfatd!\t\u00ff";

    private final Random random;
    private final FifthsOfGuilt fast = new FifthsOfGuilt();
    private final SlowCourt slow = new SlowCourt();
    private final String run;
    private int calls;
    private int suspectsTold;

    private OracleTest(int seed) {
        random = new Random(seed);
        run = "run " + seed + ": ";
    }

    public static void main(String[] args) {
        for (int seed = 0; seed < RUNS; seed++) {
            new OracleTest(seed).go();
        }
        Due.end();
    }

    private void go() {
        read();
        while (calls < CALLS) {
            int call = random.nextInt(60);
            if (call == 0 && calls < CALLS - 200) {
                read();
            } else if (call < 30) {
                change();
            } else {
                ask();
            }
        }
    }

    private void same(String call, long got, long want) {
        calls++;
        Due.is(run + call, got, want);
    }

    // ---- texts

    private int upTo(int most) {
        return random.nextInt(most + 1);
    }

    private String blanks(int least) {
        return " ".repeat(random.nextInt(12) == 0 ? least + upTo(2) : least);
    }

    private String number(int least, int most) {
        int wrong = random.nextInt(200);
        if (wrong == 0) {
            return " " + (most + 1);
        }
        return blanks(1) + (wrong == 1 ? "0" : "") + (least + upTo(Math.max(0, most - least)));
    }

    private String item() {
        int kind = random.nextInt(10);
        int from = upTo(23);
        if (suspectsTold == 0 || kind < 2 && suspectsTold < 6 || random.nextInt(100) == 0) {
            suspectsTold++;
            return "s" + number(0, random.nextBoolean() ? 20 : 4) + blanks(0) + ";";
        }
        if (kind < 6) {
            StringBuilder fact = new StringBuilder("f" + number(1, 9) + number(random.nextBoolean() ? 9 : 0, 10));
            for (int s = 0; s < suspectsTold; s++) {
                fact.append(number(0, 18));
            }
            return fact + blanks(0) + ";";
        }
        if (kind < 8) {
            return "a" + number(0, suspectsTold - 1) + number(0, 3) + " " + from + number(from, 23) + ";";
        }
        if (random.nextInt(3) == 0) {
            return random.nextBoolean() ? "t " + from + number(from, 23) + ";" : "d" + number(0, 60) + ";";
        }
        return "";
    }

    private String text() {
        suspectsTold = 0;
        StringBuilder text = new StringBuilder();
        int items = upTo(16);
        for (int i = 0; i < items; i++) {
            String item = blanks(0) + item();
            if (text.length() + item.length() <= 200) {
                text.append(item);
            } else {
                suspectsTold = Math.max(1, suspectsTold - (item.trim().startsWith("s") ? 1 : 0));
            }
        }
        if (random.nextInt(6) == 0 && text.length() > 0) {
            text.setCharAt(random.nextInt(text.length()), ODD_BYTES.charAt(random.nextInt(ODD_BYTES.length())));
        }
        if (random.nextInt(12) == 0 && text.length() > 0) {
            text.setLength(random.nextInt(text.length()));
        }
        return text.toString();
    }

    private void read() {
        String text = text();
        for (int i = 0; i < text.length(); i++) {
            int c = text.charAt(i);
            same("type(" + c + ")", fast.type(c), slow.type(c));
        }
        int answer = slow.court();
        same("court() of '" + text + "'", fast.court(), answer);
        if (answer < 0) {
            same("clear()", fast.clear(), slow.clear());
        }
        for (int what = 0; what <= 5; what++) {
            same("count(" + what + ")", fast.count(what), slow.count(what));
        }
    }

    // ---- calls

    /** A number 0 .. most, or now and then one beside them. */
    private int about(int most) {
        int wild = random.nextInt(80);
        if (wild == 0) {
            return random.nextInt();
        }
        if (wild == 1) {
            return random.nextBoolean() ? Integer.MIN_VALUE : Integer.MAX_VALUE;
        }
        if (wild < 5) {
            return random.nextBoolean() ? -1 : most + 1;
        }
        return upTo(Math.max(0, Math.min(most, 1000)));
    }

    private int one() {
        return about(slow.count(0) - 1);
    }

    private void change() {
        int a = about(slow.count(1) - 1);
        int b = about(slow.count(2) - 1);
        int s = one();
        int is = about(1);
        int n = about(60);
        switch (random.nextInt(16)) {
            case 0, 1, 2, 3, 4 -> same("find(" + a + ", " + is + ")", fast.find(a, is), slow.find(a, is));
            case 5, 6, 7, 8 -> same("hear(" + b + ", " + is + ")", fast.hear(b, is), slow.hear(b, is));
            case 9 -> same("days(" + n + ")", fast.days(n), slow.days(n));
            case 10 -> same("undo()", fast.undo(), slow.undo());
            case 11 -> same("keep(" + is + ")", fast.keep(is), slow.keep(is));
            case 12 -> same("back(" + is + ")", fast.back(is), slow.back(is));
            case 13 -> {
                int days = random.nextBoolean() ? slow.suspect(s, 2) : n;
                same("book(" + s + ", " + days + ")", fast.book(s, days), slow.book(s, days));
            }
            case 14 -> same("burn()", fast.burn(), slow.burn());
            default -> {
                same("type(" + (n - 1) + ")", fast.type(n - 1), slow.type(n - 1));
                if (random.nextInt(3) == 0) {
                    same("clear()", fast.clear(), slow.clear());
                }
            }
        }
    }

    private void ask() {
        int s = one();
        int f = about(slow.count(1) - 1);
        int a = about(slow.count(2) - 1);
        int what = about(3);
        switch (random.nextInt(6)) {
            case 0 -> {
                same("suspect(" + s + ", " + what + ")", fast.suspect(s, what), slow.suspect(s, what));
                same("share(" + s + ", " + what + ")", fast.share(s, what), slow.share(s, what));
                same("mark(.., " + s + ")", fast.mark(what * 2, s), slow.mark(what * 2, s));
                same("trace()", fast.trace(), slow.trace());
            }
            case 1 -> {
                same("fact(" + f + ", " + what + ")", fast.fact(f, what), slow.fact(f, what));
                same("moves(" + f + ", " + s + ")", fast.moves(f, s), slow.moves(f, s));
                same("alibi(" + a + ", " + what + ")", fast.alibi(a, what), slow.alibi(a, what));
                same("count(" + (what + 2) + ")", fast.count(what + 2), slow.count(what + 2));
            }
            case 2 -> {
                same("now(" + (what + 1) + ")", fast.now(what + 1), slow.now(what + 1));
                same("wronged(" + s + ")", fast.wronged(s), slow.wronged(s));
                same("wronged(-1)", fast.wronged(-1), slow.wronged(-1));
                same("clash(" + what / 2 + ")", fast.clash(what / 2), slow.clash(what / 2));
                same("mark(5, " + s + ")", fast.mark(5 - what, s), slow.mark(5 - what, s));
            }
            case 3 -> askProofs(s);
            case 4 -> askCells(s);
            default -> askSets(s, what);
        }
    }

    private void askProofs(int s) {
        int q = about(20);
        int p = about(q);
        int what = about(1);
        String args = s + ", " + p + ", " + q;
        same("forged(" + args + ")", fast.forged(s, p, q), slow.forged(s, p, q));
        if (random.nextBoolean()) {
            same("proof(" + args + ", " + what + ")", fast.proof(s, p, q, what), slow.proof(s, p, q, what));
        } else {
            same("cleared(" + args + ", " + what + ")", fast.cleared(s, p, q, what), slow.cleared(s, p, q, what));
        }
    }

    private void askCells(int s) {
        int n = 1 + about(59);
        int day = about(n - 1);
        same("cellsFor(" + n + ")", fast.cellsFor(n), slow.cellsFor(n));
        same("sits(" + n + ", " + s + ", " + day + ")", fast.sits(n, s, day), slow.sits(n, s, day));
        int set = about((1 << slow.count(0)) - 1);
        same("gains(" + set + ")", fast.gains(set), slow.gains(set));
    }

    private void askSets(int s, int what) {
        int which = random.nextInt(8);
        if (which == 0) {
            same("rests(" + what + ")", fast.rests(what), slow.rests(what));
        } else if (which < 4) {
            same("books(" + what + ")", fast.books(what), slow.books(what));
        } else {
            same("innocent(" + s + ")", fast.innocent(s), slow.innocent(s));
        }
    }
}
