/** Promises 9 to 14: FACTS FOUND, ALIBIS HEARD, DAYS, what is UNDONE, SHARES, NOW. */
public final class CourtTest {
    private static final int[] WILD = {-1, 2, Integer.MIN_VALUE, Integer.MAX_VALUE};

    public static void main(String[] args) {
        find();
        hear();
        days();
        undo();
        undoForgets();
        share();
        serves();
        now();
        Due.end();
    }

    private static void find() {
        FifthsOfGuilt x = Due.told("s 5;s 0;f 1 10 12 18;f 1 10 0 9;");
        Due.is("find(0, 1)", x.find(0, 1), 17);
        Due.is("find(0, 1) again", x.find(0, 1), -2);
        Due.is("find(1, 1): 5 + 3 - 9", x.find(1, 1), 9);
        Due.is("find(0, 0): 5 - 9", x.find(0, 0), 0);
        Due.is("find(0, 0) again", x.find(0, 0), -2);
        Due.is("now(1)", x.now(1), 2);
        Due.is("find(2, 1)", x.find(2, 1), -1);
        for (int wild : WILD) {
            Due.is("find(" + wild + ", 1)", x.find(wild, 1), -1);
            Due.is("find(1, " + wild + ")", x.find(1, wild), -1);
        }
        Due.is("count(4): refused calls are none", x.count(4), 3);
    }

    private static void hear() {
        FifthsOfGuilt x = Due.told("s 9;s 2;a 0 0 0 9;a 0 0 9 10;a 1 0 0 23;t 8 10;");
        Due.is("hear(0, 1): 8, 9", x.hear(0, 1), 9);
        Due.is("hear(0, 1) again", x.hear(0, 1), -2);
        Due.is("hear(1, 1): 10", x.hear(1, 1), 8);
        Due.is("hear(2, 1): 2 - 3, 0 at least", x.hear(2, 1), 6);
        Due.is("hear(0, 0)", x.hear(0, 0), 7);
        Due.is("hear(0, 0) again", x.hear(0, 0), -2);
        Due.is("now(2)", x.now(2), 6);
        Due.is("hear(3, 1)", x.hear(3, 1), -1);
        for (int wild : WILD) {
            Due.is("hear(0, " + wild + ")", x.hear(0, wild), -1);
        }
        Due.is("hear(-1, 1)", x.hear(-1, 1), -1);
        Due.is("hear(8, 1)", x.hear(8, 1), -1);
        heldIsNotNegativeAheadOfAlibis();
    }

    private static void heldIsNotNegativeAheadOfAlibis() {
        FifthsOfGuilt x = Due.told("s 1;f 1 10 0;f 1 10 18;a 0 0 8 9;");
        x.hear(0, 1);
        Due.is("find(0, 1)", x.find(0, 1), 0);
        Due.is("find(1, 1): 1 - 9 + 9 - 2", x.find(1, 1), 0);
        Due.is("find(0, 0): 1 + 9 - 2", x.find(0, 0), 8);
    }

    private static void days() {
        FifthsOfGuilt x = Due.told("s 1;");
        Due.is("days(10)", x.days(10), -2);
        Due.is("days(0)", x.days(0), 10);
        Due.is("days(60)", x.days(60), 0);
        Due.is("days(61)", x.days(61), -1);
        Due.is("days(-1)", x.days(-1), -1);
        Due.is("days(MIN)", x.days(Integer.MIN_VALUE), -1);
        Due.is("days(MAX)", x.days(Integer.MAX_VALUE), -1);
        Due.is("now(3)", x.now(3), 60);
        Due.is("count(4)", x.count(4), 2);
    }

    private static void undo() {
        FifthsOfGuilt x = Due.told("s 9;f 1 10 18;f 1 10 18;f 1 10 18;f 1 10 18;f 1 10 18;f 1 10 18;f 1 10 18;"
            + "f 1 10 10;a 0 0 8 8;a 0 0 9 9;a 0 0 9 9;a 0 0 9 9;a 0 0 9 9;a 0 0 9 9;a 0 0 9 9;a 0 0 9 10;");
        x.find(7, 1);
        x.hear(7, 1);
        x.days(60);
        x.find(7, 0);
        x.hear(7, 0);
        Due.is("undo() of hear(7, 0)", x.undo(), 4);
        Due.is("now(2)", x.now(2), 128);
        Due.is("now(1)", x.now(1), 0);
        Due.is("undo() of find(7, 0)", x.undo(), 3);
        Due.is("now(1)", x.now(1), 128);
        Due.is("undo() of days(60)", x.undo(), 2);
        Due.is("now(3)", x.now(3), 10);
        Due.is("a new change", x.find(0, 1), 17);
        Due.is("count(4)", x.count(4), 3);
        Due.is("undo() of find(0, 1)", x.undo(), 2);
        Due.is("undo() of hear(7, 1)", x.undo(), 1);
        Due.is("now(0)", x.now(0), 10);
        Due.is("undo() of find(7, 1)", x.undo(), 0);
        Due.is("now(0)", x.now(0), 9);
        Due.is("undo() of none", x.undo(), -2);
        Due.is("now(3)", x.now(3), 10);
    }

    private static void undoForgets() {
        FifthsOfGuilt x = Due.told("s 9;");
        for (int n = 11; n <= 22; n++) {
            x.days(n);
            Due.is("count(4) after days(" + n + ")", x.count(4), Math.min(10, n - 10));
        }
        for (int left = 9; left >= 0; left--) {
            Due.is("undo()", x.undo(), left);
            Due.is("now(3)", x.now(3), 12 + left);
        }
        Due.is("undo() of what is lost", x.undo(), -2);
    }

    private static void share() {
        FifthsOfGuilt x = Due.told("s 9;s 6;s 0;f 1 10 0 0 9;f 1 10 0 18 18;");
        int[] due = {3, 5, 2, 5, 0, 1};
        for (int i = 0; i < 6; i++) {
            Due.is("share(" + i / 2 + ", " + i % 2 + ")", x.share(i / 2, i % 2), due[i]);
        }
        Due.is("share(3, 0)", x.share(3, 0), -1);
        Due.is("share(0, 2)", x.share(0, 2), -1);
        x.find(0, 1);
        Due.is("share(0, 0): the case falls", x.share(0, 0), -2);
        Due.is("share(0, 1): the case falls", x.share(0, 1), -2);
        Due.is("share(0, 2): BAD first", x.share(0, 2), -1);
        Due.is("share(-1, 0): BAD first", x.share(-1, 0), -1);
        x.find(1, 1);
        Due.is("share(1, 0): 6 of 15", x.share(1, 0), 2);
        Due.is("share(1, 1): 6 of 15", x.share(1, 1), 5);
        Due.is("share(2, 0): 9 of 15", x.share(2, 0), 3);
        Due.is("share(MIN, 0)", x.share(Integer.MIN_VALUE, 0), -1);
        Due.is("share(0, -1)", x.share(0, -1), -1);
    }

    private static void serves(FifthsOfGuilt x, int... due) {
        int all = 0;
        for (int s = 0; s < due.length; s++) {
            Due.is("suspect(" + s + ", 2)", x.suspect(s, 2), due[s]);
            all += due[s];
        }
        Due.is("now(4)", x.now(4), all);
    }

    private static void serves() {
        serves(Due.told("s1;s1;s1;d 10;"), 4, 3, 3);
        serves(Due.told("s1;s1;s1;d 11;"), 4, 4, 3);
        // 7 days of 1, 2, 4: rests none.
        serves(Due.told("s1;s2;s4;d 7;"), 1, 2, 4);
        // 8 days: 1 and 1, 2 and 2, 4 and 4 of 7: one over, to the last.
        serves(Due.told("s1;s2;s4;d 8;"), 1, 2, 5);
        // 10 days: 10, 20, 40 of 7: 1 and 3, 2 and 6, 5 and 5: two over.
        serves(Due.told("s1;s2;s4;d 10;"), 1, 3, 6);
        serves(Due.told("s0;s3;s0;d 9;"), 0, 9, 0);
        serves(Due.told("s0;s0;d 9;"), 0, 0);
        serves(Due.told("s5;s5;d 0;"), 0, 0);
        // 59 of 101 is 0 and 59, 1180 is 11 and 69: four over.
        serves(Due.told("s1;s20;s20;s20;s20;s20;d 59;"), 0, 12, 12, 12, 12, 11);
    }

    private static void now() {
        FifthsOfGuilt x = Due.told("s 9;f 1 10 18;f 1 10 9;a 0 0 8 9;a 0 0 8 8;d 33;");
        x.find(1, 1);
        x.hear(1, 1);
        Due.is("now(0)", x.now(0), 8);
        Due.is("now(1)", x.now(1), 2);
        Due.is("now(2)", x.now(2), 2);
        Due.is("now(3)", x.now(3), 33);
        Due.is("now(4)", x.now(4), 33);
        Due.is("now(5)", x.now(5), -1);
        Due.is("now(-1)", x.now(-1), -1);
        Due.is("now(MIN)", x.now(Integer.MIN_VALUE), -1);
        Due.is("now(MAX)", x.now(Integer.MAX_VALUE), -1);
    }
}
