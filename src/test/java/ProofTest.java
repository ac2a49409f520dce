/** Promises 15 to 18: PROOF, CLEARED, FORGED, CLASH. */
public final class ProofTest {
    public static void main(String[] args) {
        proof();
        proofByCostThenBits();
        proofOfFoundFacts();
        cleared();
        forged();
        clash();
        clashOfSets();
        wrongInputs();
        Due.end();
    }

    private static void proof() {
        FifthsOfGuilt x = Due.told("s 3;s 1;s 0;f 2 10 12 9 14;f 3 5 9 16 9;f 1 9 0 18 11;");
        Due.is("proof(0, 3, 4, 0): it is so", x.proof(0, 3, 4, 0), 0);
        Due.is("proof(0, 3, 4, 1): none", x.proof(0, 3, 4, 1), 0);
        Due.is("proof(0, 4, 5, 0)", x.proof(0, 4, 5, 0), -9);
        Due.is("proof(0, 4, 5, 1)", x.proof(0, 4, 5, 1), -9);
        // With 2: 3 - 8 is 0, 1 + 8 is 9, 0 + 1 is 1.
        Due.is("proof(1, 9, 10, 0)", x.proof(1, 9, 10, 0), 1);
        Due.is("proof(1, 9, 10, 1)", x.proof(1, 9, 10, 1), 4);
        // With 2 and 1: 0, 1 + 8 + 3, 1.
        Due.is("proof(1, 10, 11, 0)", x.proof(1, 10, 11, 0), 4);
        Due.is("proof(1, 10, 11, 1)", x.proof(1, 10, 11, 1), 6);
        Due.is("proof(2, 0, 20, 0)", x.proof(2, 0, 20, 0), 0);
        Due.is("proof(2, 5, 12, 1)", x.proof(2, 5, 12, 1), 1);
        Due.is("now(1): nothing is changed", x.now(1), 0);
        Due.is("count(4): nothing is changed", x.count(4), 0);
    }

    private static void proofByCostThenBits() {
        FifthsOfGuilt x = Due.told("s 0;s 0;f 3 10 18 9;f 2 10 18 9;f 1 10 9 9;f 2 10 18 9;f 9 10 0 0;");
        Due.is("the case not fallen", x.proof(0, 0, 1, 1), 2);
        Due.is("cost", x.proof(0, 0, 1, 0), 2);
        Due.is("of like costs the least bits", x.proof(0, 1, 1, 1), 2);
        Due.is("none for the other one", x.proof(1, 1, 20, 1), -9);
        x = Due.told("s 5;s 5;f 2 10 14 9;f 1 10 12 9;f 1 10 11 9;");
        // 10 by 15 is made by fact 0, or by 1 and 2, each of cost 2.
        Due.is("one of the least bits", x.proof(0, 2, 3, 1), 1);
        Due.is("its cost", x.proof(0, 2, 3, 0), 2);
    }

    private static void proofOfFoundFacts() {
        FifthsOfGuilt x = Due.told("s 5;s 5;f 2 10 14 9;f 4 10 0 9;f 1 10 14 9;a 0 0 8 9;");
        x.find(1, 1);
        Due.is("a fact found is not taken back", x.proof(0, 2, 3, 0), -9);
        Due.is("but counts: 6 by 11", x.proof(0, 1, 2, 1), 5);
        Due.is("at no cost", x.proof(0, 1, 2, 0), 3);
        Due.is("1 by 6", x.proof(0, 1, 6, 1), 4);
        Due.is("cleared by it", x.cleared(0, 0, 1, 0), 0);
        x.find(1, 0);
        x.hear(0, 1);
        Due.is("alibis heard count", x.proof(0, 1, 2, 0), 1);
        Due.is("3 of 8 now", x.proof(0, 3, 8, 0), 0);
    }

    private static void cleared() {
        FifthsOfGuilt x = Due.told("s 5;s 5;f 2 10 4 9;f 3 10 9 18;f 1 10 6 8;f 9 10 0 0;");
        Due.is("cleared(0, 1, 2, 1): it is so", x.cleared(0, 1, 2, 1), 0);
        Due.is("cleared(0, 2, 5, 1): 2 by 6", x.cleared(0, 2, 5, 1), 4);
        Due.is("cleared(0, 2, 5, 0)", x.cleared(0, 2, 5, 0), 1);
        Due.is("cleared(0, 0, 1, 1)", x.cleared(0, 0, 1, 1), 1);
        Due.is("cleared(0, 0, 1, 0)", x.cleared(0, 0, 1, 0), 2);
        // By fact 3 the case falls; 0 against 1 takes 9, too: 1 has nothing else that moves him down.
        Due.is("cleared(1, 0, 1, 1)", x.cleared(1, 0, 1, 1), 8);
        Due.is("cleared(1, 0, 1, 0)", x.cleared(1, 0, 1, 0), 9);
        x.find(0, 1);
        Due.is("of those left", x.cleared(1, 9, 10, 1), 8);
        x = Due.told("s 5;");
        Due.is("no facts", x.cleared(0, 19, 20, 0), -9);
        Due.is("no facts, the set", x.cleared(0, 19, 20, 1), -9);
        Due.is("all of it", x.cleared(0, 20, 20, 1), 0);
    }

    private static void forged() {
        FifthsOfGuilt x = Due.told("s 9;s 6;f 1 10 9 0;a 0 0 8 10;a 1 0 8 15;");
        Due.is("forged(0, 3, 5): it is so", x.forged(0, 3, 5), 0);
        Due.is("forged(0, 1, 2)", x.forged(0, 1, 2), 3);
        Due.is("forged(0, 1, 7): 1 by 7", x.forged(0, 1, 7), 8);
        Due.is("forged(0, 1, 8): no hours", x.forged(0, 1, 8), -9);
        x.hear(0, 1);
        Due.is("forged(0, 1, 2): by the alibi", x.forged(0, 1, 2), 0);
        Due.is("forged(0, 1, 7): 5 are left", x.forged(0, 1, 7), 5);
        Due.is("forged(0, 1, 8)", x.forged(0, 1, 8), -9);
        x.hear(1, 1);
        Due.is("forged(0, 1, 1): alone", x.forged(0, 1, 1), 0);
        Due.is("forged(0, 19, 20): only if the case falls", x.forged(0, 19, 20), -9);
        Due.is("forged(1, 0, 1): nothing is held", x.forged(1, 0, 1), 0);
        x = Due.told("s 3;t 5 7;");
        Due.is("the case falls", x.forged(0, 0, 1), 3);
        x = Due.told("s 4;t 5 7;");
        Due.is("it does not", x.forged(0, 0, 1), -9);
        x = Due.told("s 4;s 0;t 0 23;");
        Due.is("not below nothing", x.forged(0, 1, 20), 4);
        Due.is("now(0): nothing is changed", x.now(0), 4);
    }

    private static void clash() {
        FifthsOfGuilt x = Due.told("s1;s1;a 0 0 5 7;a 0 1 7 9;a 0 2 8 8;a 1 3 0 23;a 0 0 6 8;");
        // 0 and 1 at 7; 1 and 2 at 8; 1 and 4 at 7; 2 and 4 at 8; 0 and 4 are at one place.
        Due.is("clash(0)", x.clash(0), 4);
        Due.is("clash(1): 1 and 2, or 1 and 4", x.clash(1), 6);
        x.hear(1, 1);
        Due.is("clash(0) heard or not", x.clash(0), 4);
        x = Due.told("s1;a 0 0 5 7;a 0 1 8 9;");
        Due.is("side by side", x.clash(0), 0);
        Due.is("none is false", x.clash(1), 0);
        x = Due.told("s1;a 0 1 9 9;a 0 0 0 23;");
        Due.is("outside in", x.clash(0), 1);
        Due.is("of like sets the least bits", x.clash(1), 1);
        Due.is("clash(2)", x.clash(2), -1);
        Due.is("clash(-1)", x.clash(-1), -1);
        Due.is("clash(MIN)", x.clash(Integer.MIN_VALUE), -1);
    }

    private static void clashOfSets() {
        FifthsOfGuilt x = Due.told("s1;a0 0 0 0;a0 1 0 0;a0 2 0 0;a0 3 0 0;a0 0 0 0;a0 1 0 0;a0 2 0 0;a0 3 0 0;");
        Due.is("clash(0)", x.clash(0), 24);
        Due.is("clash(1): one place is left", x.clash(1), 119);
        x = Due.told("s1;a0 0 0 0;a0 0 3 3;a0 0 5 5;a0 1 0 5;");
        Due.is("fewest, though its bits are more", x.clash(1), 8);
    }

    private static void wrongInputs() {
        FifthsOfGuilt x = Due.told("s 5;s 5;f 1 10 9 9;");
        int[][] bad = {{2, 1, 2}, {-1, 1, 2}, {0, 1, 0}, {0, 0, 0}, {0, 0, 21}, {0, -1, 2}, {0, 3, 2}, {0, 0, -1},
            {Integer.MIN_VALUE, 1, 2}, {0, Integer.MIN_VALUE, 2}, {0, 1, Integer.MAX_VALUE}, {Integer.MAX_VALUE, 1, 2}};
        for (int[] b : bad) {
            String args = "(" + b[0] + ", " + b[1] + ", " + b[2] + ")";
            Due.is("proof" + args, x.proof(b[0], b[1], b[2], 0), -1);
            Due.is("cleared" + args, x.cleared(b[0], b[1], b[2], 1), -1);
            Due.is("forged" + args, x.forged(b[0], b[1], b[2]), -1);
        }
        for (int what : new int[] {-1, 2, Integer.MAX_VALUE}) {
            Due.is("proof(0, 1, 2, " + what + ")", x.proof(0, 1, 2, what), -1);
            Due.is("cleared(0, 1, 2, " + what + ")", x.cleared(0, 1, 2, what), -1);
        }
        Due.is("proof(1, 0, 20, 0)", x.proof(1, 0, 20, 0), 0);
        Due.is("cleared(1, 20, 20, 0)", x.cleared(1, 20, 20, 0), 0);
    }
}
