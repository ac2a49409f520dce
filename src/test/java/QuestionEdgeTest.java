/**
 * The boundary cases of part 3 of the document's terms, and of promises 15 to 20: PROOF, CLEARED, FORGED,
 * CLASH, BANDS. A method for each sentence, which its comment quotes. (What is refused by its numbers,
 * and that asking changes nothing: RefusedTest.)
 */
public final class QuestionEdgeTest {
    private static final int NONE = -9;

    public static void main(String[] args) {
        proofByNone();
        proofIsSoMuchAtLeast();
        proofOfFactsNotFound();
        proofNotOfAFallenCase();
        proofByTheLeastCost();
        proofByTheLeastBits();
        proofByAll();
        proofByNothingThatThereIs();
        clearedByNone();
        clearedIsNoMore();
        clearedByAFallenCase();
        clearedByTheLeastCost();
        clearedByTheLeastBits();
        clearedByNothingThatThereIs();
        forgedByNone();
        forgedIsNoMore();
        forgedUntilTheCaseFalls();
        forgedOfHoursLeft();
        forgedOfHoursThatNoAlibiHas();
        clashHeardOrNot();
        clashOfOneSuspect();
        clashAtUnlikePlaces();
        clashInSomeHourAlike();
        falseOfNone();
        falseFewest();
        falseLeastBits();
        falseOfMost();
        bandHalfCut();
        bandThreeMore();
        bandDaysOfNothing();
        restsOfSets();
        restsAreNeverNone();
        gainsTheFirst();
        gainsOfNone();
        askedByNow();
        askedOfASmallerCase();
        Due.end();
    }

    private static void proof(FifthsOfGuilt x, int s, int p, int q, int cost, int set) {
        String args = "(" + s + ", " + p + ", " + q + ", ";
        Due.is("proof" + args + "0)", x.proof(s, p, q, 0), cost);
        Due.is("proof" + args + "1)", x.proof(s, p, q, 1), set);
    }

    private static void cleared(FifthsOfGuilt x, int s, int p, int q, int cost, int set) {
        String args = "(" + s + ", " + p + ", " + q + ", ";
        Due.is("cleared" + args + "0)", x.cleared(s, p, q, 0), cost);
        Due.is("cleared" + args + "1)", x.cleared(s, p, q, 1), set);
    }

    private static void clash(String alibis, int pairs, int set) {
        FifthsOfGuilt x = Due.told("s1;s1;" + alibis);
        Due.is("clash(0) of " + alibis, x.clash(0), pairs);
        Due.is("clash(1) of " + alibis, x.clash(1), set);
    }

    // ---- PROOF

    /** "of sets of FACTS not FOUND (none, too)" */
    private static void proofByNone() {
        FifthsOfGuilt x = Due.told("s3;s2;f1 10 18 9;");
        proof(x, 0, 3, 5, 0, 0);
        proof(x, 0, 0, 1, 0, 0);
        proof(Due.told("s3;"), 0, 1, 1, 0, 0);
        proof(Due.told("s3;"), 0, 20, 20, 0, 0);
        proof(Due.told("s0;s1;"), 0, 0, 20, 0, 0);
    }

    /** "his SHARE p by q at least" */
    private static void proofIsSoMuchAtLeast() {
        FifthsOfGuilt x = Due.told("s3;s2;f4 10 18 9;f7 10 18 0;");
        proof(x, 0, 12, 20, 0, 0);
        proof(x, 0, 13, 20, 4, 1);
        // 12 by 14 with the first.
        proof(x, 0, 6, 7, 4, 1);
        proof(x, 0, 13, 15, 7, 2);
        proof(x, 0, 20, 20, 7, 2);
    }

    /** "FACTS not FOUND": those FOUND cost nothing, are in no set, and are not taken back. */
    private static void proofOfFactsNotFound() {
        FifthsOfGuilt x = Due.told("s3;s3;f2 10 18 9;f1 10 0 9;f5 10 18 9;");
        proof(x, 0, 4, 5, 2, 1);
        x.find(0, 1);
        proof(x, 0, 4, 5, 0, 0);
        x.find(1, 1);
        proof(x, 0, 4, 5, 5, 4);
        x.find(2, 1);
        proof(x, 0, 4, 5, 0, 0);
        proof(x, 0, 5, 6, NONE, NONE);
        x.find(0, 0);
        proof(x, 0, 4, 5, 2, 1);
    }

    /** "(THE CASE not FALLEN)" */
    private static void proofNotOfAFallenCase() {
        FifthsOfGuilt x = Due.told("s0;s0;f6 10 9 10;");
        proof(x, 0, 0, 1, 6, 1);
        proof(x, 0, 1, 20, NONE, NONE);
        proof(x, 1, 1, 1, 6, 1);
        proof(Due.told("s0;"), 0, 0, 20, NONE, NONE);
        x = Due.told("s5;f1 10 0;f2 10 18;");
        x.find(0, 1);
        proof(x, 0, 0, 1, 2, 2);
    }

    /** "that of the least COST": though its bits are more, or its FACTS. */
    private static void proofByTheLeastCost() {
        FifthsOfGuilt x = Due.told("s0;s9;f9 10 18 9;f8 10 18 9;f3 10 13 9;f4 10 14 9;");
        proof(x, 0, 1, 2, 7, 12);
        proof(x, 0, 1, 4, 3, 4);
        x = Due.told("s0;s9;f9 10 18 9;f8 10 18 9;f4 10 13 9;f5 10 14 9;");
        proof(x, 0, 1, 2, 8, 2);
    }

    /** "of several the least bits" */
    private static void proofByTheLeastBits() {
        FifthsOfGuilt x = Due.told("s0;s9;f2 10 13 9;f3 10 14 9;f5 10 18 9;f5 10 18 9;");
        proof(x, 0, 1, 2, 5, 3);
        x = Due.told("s0;s9;f5 10 18 9;f2 10 13 9;f3 10 14 9;");
        proof(x, 0, 1, 2, 5, 1);
        x = Due.told("s0;s9;f9 10 9 9;f5 10 18 9;f2 10 13 9;f3 10 14 9;f5 10 18 9;");
        proof(x, 0, 1, 2, 5, 2);
    }

    /** A set of all eight FACTS, of the most COST that there is. */
    private static void proofByAll() {
        FifthsOfGuilt x = Due.told("s0;s8;" + "f9 10 10 9;".repeat(8));
        proof(x, 0, 1, 2, 72, 255);
        proof(x, 0, 1, 9, 9, 1);
        proof(x, 0, 2, 10, 18, 3);
        proof(x, 0, 11, 20, NONE, NONE);
    }

    /** PROOF "NONE" */
    private static void proofByNothingThatThereIs() {
        proof(Due.told("s1;s1;"), 0, 11, 20, NONE, NONE);
        proof(Due.told("s0;s1;"), 0, 1, 20, NONE, NONE);
        proof(Due.told("s1;s1;f1 10 0 18;"), 0, 1, 1, NONE, NONE);
    }

    // ---- CLEARED

    /** CLEARED: "likewise": by none, too. */
    private static void clearedByNone() {
        cleared(Due.told("s3;"), 0, 1, 1, 0, 0);
        cleared(Due.told("s3;"), 0, 20, 20, 0, 0);
        cleared(Due.told("s0;s1;"), 0, 0, 1, 0, 0);
        cleared(Due.told("s3;s2;f1 10 0 9;"), 0, 3, 5, 0, 0);
    }

    /** "his SHARE no more than that" */
    private static void clearedIsNoMore() {
        FifthsOfGuilt x = Due.told("s3;s2;f4 10 8 9;f7 10 0 9;");
        cleared(x, 0, 12, 20, 0, 0);
        cleared(x, 0, 11, 20, 4, 1);
        cleared(x, 0, 10, 20, 4, 1);
        cleared(x, 0, 9, 20, 7, 2);
        cleared(x, 0, 0, 20, 7, 2);
        x.find(0, 1);
        cleared(x, 0, 9, 20, 7, 2);
        cleared(x, 0, 10, 20, 0, 0);
    }

    /** "(or THE CASE FALLEN)" */
    private static void clearedByAFallenCase() {
        cleared(Due.told("s0;"), 0, 0, 1, 0, 0);
        FifthsOfGuilt x = Due.told("s9;f6 10 0;");
        cleared(x, 0, 0, 1, 6, 1);
        cleared(x, 0, 19, 20, 6, 1);
        x.find(0, 1);
        cleared(x, 0, 0, 1, 0, 0);
    }

    /** CLEARED "that of the least COST" */
    private static void clearedByTheLeastCost() {
        FifthsOfGuilt x = Due.told("s9;s9;f9 10 0 9;f8 10 0 9;f3 10 5 9;f4 10 4 9;");
        cleared(x, 0, 0, 1, 7, 12);
        x = Due.told("s9;s9;f9 10 0 9;f8 10 0 9;f4 10 5 9;f5 10 4 9;");
        cleared(x, 0, 0, 1, 8, 2);
        x = Due.told("s0;s8;" + "f9 10 8 9;".repeat(8));
        cleared(x, 0, 0, 1, 0, 0);
        x = Due.told("s8;s8;" + "f9 10 8 9;".repeat(8));
        cleared(x, 0, 0, 1, 72, 255);
    }

    /** CLEARED "of several the least bits" */
    private static void clearedByTheLeastBits() {
        FifthsOfGuilt x = Due.told("s9;s9;f2 10 5 9;f3 10 4 9;f5 10 0 9;f5 10 0 9;");
        cleared(x, 0, 0, 1, 5, 3);
        x = Due.told("s9;s9;f5 10 0 9;f2 10 5 9;f3 10 4 9;");
        cleared(x, 0, 0, 1, 5, 1);
    }

    /** CLEARED "NONE" */
    private static void clearedByNothingThatThereIs() {
        cleared(Due.told("s3;"), 0, 19, 20, NONE, NONE);
        cleared(Due.told("s1;s1;"), 0, 9, 20, NONE, NONE);
        cleared(Due.told("s20;s0;f1 10 0 9;f1 10 0 9;"), 0, 0, 1, NONE, NONE);
    }

    // ---- FORGED

    /** FORGED: none, where it is so. */
    private static void forgedByNone() {
        Due.is("all of it", Due.told("s9;").forged(0, 1, 1), 0);
        Due.is("nothing is held", Due.told("s0;s9;").forged(0, 0, 1), 0);
        Due.is("the case falls", Due.told("s0;").forged(0, 0, 20), 0);
        Due.is("just so", Due.told("s9;s6;").forged(0, 3, 5), 0);
    }

    /** "for his SHARE to be no more than p by q": "the fewest" */
    private static void forgedIsNoMore() {
        FifthsOfGuilt x = Due.told("s9;s6;t0 23;");
        // 9 less 1 is 8 by 14, 4 by 7; less 3 is 6 by 12.
        Due.is("forged(0, 11, 20)", x.forged(0, 11, 20), 2);
        Due.is("forged(0, 4, 7)", x.forged(0, 4, 7), 1);
        Due.is("forged(0, 10, 20)", x.forged(0, 10, 20), 3);
        Due.is("forged(0, 9, 20)", x.forged(0, 9, 20), 5);
        Due.is("forged(0, 1, 7)", x.forged(0, 1, 7), 8);
        Due.is("forged(0, 1, 8)", x.forged(0, 1, 8), 9);
        Due.is("forged(0, 0, 1)", x.forged(0, 0, 1), 9);
        Due.is("forged(1, 0, 1)", x.forged(1, 0, 1), 6);
    }

    /** "(or THE CASE to FALL)" */
    private static void forgedUntilTheCaseFalls() {
        Due.is("alone", Due.told("s4;t0 3;").forged(0, 19, 20), 4);
        Due.is("alone, an hour too few", Due.told("s5;t0 3;").forged(0, 19, 20), NONE);
        Due.is("alone, all hours", Due.told("s20;t0 19;").forged(0, 0, 1), 20);
        Due.is("alone, more hours than are needed", Due.told("s20;t0 23;").forged(0, 0, 1), 20);
    }

    /** "as many as there are hours of THE DEED left; NONE" */
    private static void forgedOfHoursLeft() {
        Due.is("one hour", Due.told("s1;s5;t23 23;").forged(0, 0, 1), 1);
        Due.is("one hour too few", Due.told("s2;s5;t23 23;").forged(0, 0, 1), NONE);
        Due.is("eight hours at first", Due.told("s8;s5;").forged(0, 0, 1), 8);
        Due.is("eight hours are no nine", Due.told("s9;s5;").forged(0, 0, 1), NONE);
    }

    /** "in which none of his ALIBIS HEARD has him" */
    private static void forgedOfHoursThatNoAlibiHas() {
        FifthsOfGuilt x = Due.told("s9;s6;f1 10 11 9;a0 0 8 10;a0 1 10 12;a1 0 8 15;a0 0 0 7;t8 15;");
        Due.is("of 9 by 8 hours", x.forged(0, 0, 1), NONE);
        x.hear(0, 1);
        Due.is("of 6 by 5 hours", x.forged(0, 0, 1), NONE);
        x.hear(1, 1);
        Due.is("of 4 by 3 hours", x.forged(0, 0, 1), NONE);
        Due.is("of 4 by 3 hours to 1 by 7", x.forged(0, 1, 7), 3);
        x.hear(2, 1);
        Due.is("another's alibi leaves his hours", x.forged(0, 0, 1), NONE);
        x.hear(1, 0);
        x.hear(0, 0);
        x.hear(3, 1);
        Due.is("an alibi outside of the deed leaves them, too", x.forged(0, 0, 1), NONE);
        x = Due.told("s8;s6;a0 0 8 15;");
        Due.is("8 hours not heard", x.forged(0, 0, 1), 8);
        x.hear(0, 1);
        Due.is("no hour is left, none is needed", x.forged(0, 0, 1), 0);
        x = Due.told("s9;s6;a0 0 8 15;");
        x.hear(0, 1);
        Due.is("no hour is left, one is needed", x.forged(0, 0, 1), NONE);
        Due.is("no hour is left, 1 by 7 is so", x.forged(0, 1, 7), 0);
    }

    // ---- CLASH

    /** "pairs of ALIBIS (HEARD or not)" */
    private static void clashHeardOrNot() {
        FifthsOfGuilt x = Due.told("s1;a0 0 8 9;a0 1 9 10;");
        for (int heard = 0; heard <= 2; heard++) {
            Due.is("clash(0), " + heard + " heard", x.clash(0), 1);
            Due.is("clash(1), " + heard + " heard", x.clash(1), 1);
            x.hear(heard, 1);
        }
    }

    /** "of one SUSPECT" */
    private static void clashOfOneSuspect() {
        clash("a0 0 0 23;a1 1 0 23;", 0, 0);
        clash("a0 0 0 23;a1 1 0 23;a1 2 0 23;", 1, 2);
        clash("a0 0 0 23;a1 1 0 23;a1 2 0 23;a0 3 0 23;", 2, 3);
    }

    /** "at unlike PLACES" */
    private static void clashAtUnlikePlaces() {
        clash("a0 0 0 23;a0 0 0 23;", 0, 0);
        clash("a0 3 0 23;a0 3 5 5;", 0, 0);
        clash("a0 0 0 23;a0 3 5 5;", 1, 1);
    }

    /** "in some hour alike": of THE DEED or not. */
    private static void clashInSomeHourAlike() {
        clash("a0 0 8 9;a0 1 10 11;", 0, 0);
        clash("a0 0 8 10;a0 1 10 11;", 1, 1);
        clash("a0 0 10 11;a0 1 8 9;", 0, 0);
        clash("a0 0 10 11;a0 1 8 10;", 1, 1);
        clash("a0 0 0 0;a0 1 0 0;", 1, 1);
        clash("a0 0 23 23;a0 1 0 23;", 1, 1);
        clash("a0 0 0 0;a0 1 23 23;", 0, 0);
        clash("a0 0 5 5;a0 1 4 6;t20 21;", 1, 1);
    }

    /** FALSE of no CLASH, and of no ALIBIS: none. */
    private static void falseOfNone() {
        clash("", 0, 0);
        clash("a0 0 0 23;", 0, 0);
        clash("a0 0 0 0;".repeat(8), 0, 0);
    }

    /** "FALSE: the fewest ALIBIS without which there is none" */
    private static void falseFewest() {
        // The last one clashes with all others, which do not with one another.
        clash("a0 0 0 0;a0 0 1 1;a0 0 2 2;a0 1 0 23;", 3, 8);
        clash("a0 1 0 23;a0 0 0 0;a0 0 1 1;a0 0 2 2;", 3, 1);
        // A ring of four: 0 and 1, 1 and 2, 2 and 3 meet.
        clash("a0 0 0 1;a0 1 1 2;a0 2 2 3;a0 3 3 4;", 3, 5);
    }

    /** "of several sets the least bits" */
    private static void falseLeastBits() {
        clash("a0 0 5 5;a0 1 5 5;a0 2 5 5;", 3, 3);
        clash("a1 0 5 5;a0 1 5 5;a0 2 5 5;a1 3 5 5;", 2, 3);
        clash("a0 0 0 0;a0 0 1 1;a0 1 1 1;a0 0 2 2;a0 2 2 2;", 2, 10);
    }

    /** Eight ALIBIS at four PLACES in one hour: 24 pairs, and six of them must be false. */
    private static void falseOfMost() {
        clash("a0 0 0 0;a0 1 0 0;a0 2 0 0;a0 3 0 0;a0 0 0 0;a0 1 0 0;a0 2 0 0;a0 3 0 0;", 24, 119);
        clash("a0 0 0 0;".repeat(4) + "a0 1 0 0;".repeat(4), 16, 15);
        clash("a0 0 0 0;".repeat(7) + "a0 1 0 0;", 7, 128);
        clash("a0 1 0 0;" + "a0 0 0 0;".repeat(7), 7, 1);
    }

    // ---- A BAND

    /** "against one who tells half (cut)" */
    private static void bandHalfCut() {
        // Alone he has all days or none: half of 1 is nothing.
        FifthsOfGuilt x = Due.told("s1;");
        Due.is("1, silent", x.gains(0), 0);
        Due.is("1, tells", x.gains(1), NONE);
        x = Due.told("s2;");
        Due.is("2, silent", x.gains(0), NONE);
        x = Due.told("s3;s4;d5;");
        // Silent 3, 4: 2, 2 days. 0 tells: 1, 7: 0. 1 tells: 6, 2: 1.
        Due.is("3, silent", x.gains(0), 0);
        x = Due.told("s0;s1;d1;");
        // Silent: 0, 1: 0, 1 day. 1 tells: 3, 0: 0 days.
        Due.is("1 beside one of nothing", x.gains(0), 1);
    }

    /** "for each other one who tells 3 more": not for himself. */
    private static void bandThreeMore() {
        FifthsOfGuilt x = Due.told("s0;s0;s0;s0;s0;s0;d60;");
        // One tells: 0, 3 each: 12 days each; another one who tells, too, has 3 of 27: 6.
        Due.is("rests(0) of six of nothing", x.rests(0), 2);
        Due.is("none tells", x.gains(0), NONE);
        Due.is("one tells", x.gains(1), 1);
        Due.is("one tells, the last", x.gains(32), 0);
        Due.is("all but one tell", x.gains(62), 0);
        Due.is("all tell", x.gains(63), NONE);
        x = Due.told("s6;s1;d7;");
        // {}: 6, 1: 6 and 1 days. {0}: 3, 4: 3, 4. {1}: 9, 0: 7, 0. {0, 1}: 6, 3: 4, 2.
        Due.is("{}", x.gains(0), 0);
        Due.is("{0}", x.gains(1), 1);
        Due.is("{1}", x.gains(2), 0);
        Due.is("{0, 1}", x.gains(3), NONE);
        // {1}: 3, 3: 1 day each; 0 tells, too: 3, 6: 0 days.
        Due.is("no fewer than 3", Due.told("s0;s6;d2;").gains(2), 0);
        // {1}: 3, 4: 0 days already.
        Due.is("no more than 3", Due.told("s0;s8;d2;").gains(2), NONE);
        // {1}: 5, 1: 1 day; 0 tells, too: 1 and 3, 1 and 3: 1 day. The 3 are not halved.
        Due.is("3 beside the half", Due.told("s2;s3;d2;").gains(2), NONE);
    }

    /** "(cut; 0, if that is 0)" */
    private static void bandDaysOfNothing() {
        FifthsOfGuilt x = Due.told("s0;d60;");
        Due.is("alone: rests(0)", x.rests(0), 2);
        Due.is("alone: gains(0)", x.gains(0), NONE);
        Due.is("alone: gains(1)", x.gains(1), NONE);
        x = Due.told("s0;s0;d60;");
        // {}: 0, 0. {0}: 0, 3: 0, 60 days. {0, 1}: 3, 3: 30 each.
        Due.is("two: rests(0)", x.rests(0), 2);
        Due.is("two: rests(1)", x.rests(1), 0);
        Due.is("two: gains(1)", x.gains(1), 1);
        x = Due.told("s5;s9;d0;");
        Due.is("no days: rests(0)", x.rests(0), 4);
    }

    /** "RESTS: sets in which none has fewer days by doing otherwise alone: how many; the least bits" */
    private static void restsOfSets() {
        FifthsOfGuilt x = Due.told("s0;s0;s6;d7;");
        // {0, 2}: 3, 6, 6: 1, 2, 2 days; 1 tells, too: 6, 6, 9: 2. {1, 2} likewise. {0, 1, 2}: 6, 6, 9.
        Due.is("rests(0)", x.rests(0), 3);
        Due.is("rests(1)", x.rests(1), 5);
        Due.is("gains(4)", x.gains(4), 0);
        Due.is("gains(5)", x.gains(5), NONE);
        Due.is("gains(6)", x.gains(6), NONE);
        Due.is("gains(7)", x.gains(7), NONE);
        x = Due.told("s7;s7;s7;s7;s7;s7;d60;");
        Due.is("of six: rests(0)", x.rests(0), 1);
        Due.is("of six: rests(1)", x.rests(1), 63);
    }

    /** "NONE": who tells has no more days than silent, so all who tell REST always; then none is NONE. */
    private static void restsAreNeverNone() {
        for (int grudge = 0; grudge <= 20; grudge += 5) {
            for (int days = 0; days <= 60; days += 12) {
                FifthsOfGuilt x = Due.told("s" + grudge + ";s1;s20;s" + (20 - grudge) + ";d" + days + ";");
                Due.is("gains(15)", x.gains(15), NONE);
                Due.is("rests(0) is one at least", Math.min(1, x.rests(0)), 1);
                Due.is("the least rests", x.gains(x.rests(1)), NONE);
            }
        }
    }

    /** "GAINS in a set: the first who has fewer days by doing otherwise alone" */
    private static void gainsTheFirst() {
        FifthsOfGuilt x = Due.told("s7;s7;s7;s7;s7;s7;d60;");
        for (int tell = 0; tell < 6; tell++) {
            Due.is("the first " + tell + " tell", x.gains((1 << tell) - 1), tell);
        }
        Due.is("the last alone tells", x.gains(32), 0);
        Due.is("all but the fourth", x.gains(55), 3);
        x = Due.told("s0;s0;s9;d9;");
        // {}: 0, 0, 9: the first two have no days.
        Due.is("those who have none cannot gain", x.gains(0), 2);
    }

    /** GAINS "NONE": cut days that are no fewer are no gain. */
    private static void gainsOfNone() {
        FifthsOfGuilt x = Due.told("s4;s4;d1;");
        for (int set = 0; set < 4; set++) {
            Due.is("gains(" + set + ") of no whole day", x.gains(set), NONE);
        }
        Due.is("all rest", x.rests(0), 4);
        Due.is("the least bits", x.rests(1), 0);
    }

    // ---- what all of these have alike

    /** They are asked of what is so now, whatever was asked of or UNDONE ahead of them. */
    private static void askedByNow() {
        FifthsOfGuilt x = Due.told("s9;s6;f1 10 0 9;a0 0 8 15;d15;");
        x.hear(0, 1);
        x.undo();
        proof(x, 0, 3, 5, 0, 0);
        x.hear(0, 1);
        x.undo();
        cleared(x, 0, 3, 5, 0, 0);
        cleared(x, 0, 11, 20, 1, 1);
        x.hear(0, 1);
        x.undo();
        Due.is("forged(0, 3, 5)", x.forged(0, 3, 5), 0);
        x.find(0, 1);
        x.undo();
        // {}: 9, 6: 9, 6 days; 0 tells: 4, 9: 4.
        Due.is("gains(0)", x.gains(0), 0);
        x.find(0, 1);
        // {}: 0, 6: 0, 15 days; 1 tells: 3, 3: 7.
        Due.is("gains(0) of the fact", x.gains(0), 1);
        x.days(0);
        Due.is("gains(0) of no days", x.gains(0), NONE);
        Due.is("rests(0) of no days", x.rests(0), 4);
        x.undo();
        x.undo();
        Due.is("rests(0)", x.rests(0), 1);
        Due.is("rests(1)", x.rests(1), 3);
    }

    /** What a larger case had in it is not seen by a smaller one, on the same object. */
    private static void askedOfASmallerCase() {
        FifthsOfGuilt x = Due.told("s9;s9;s9;s9;s9;s9;" + "a0 0 8 8;a0 1 8 8;".repeat(4));
        Due.is("clash(0)", x.clash(0), 16);
        Due.is("gains(0)", x.gains(0), 0);
        Due.read(x, "s9;s1;f1 10 0 9;a0 0 8 8;a0 0 8 8;a1 1 8 8;");
        Due.is("clash(0) of a smaller one", x.clash(0), 0);
        Due.is("clash(1) of a smaller one", x.clash(1), 0);
        proof(x, 0, 9, 10, 0, 0);
        cleared(x, 0, 0, 1, 1, 1);
        Due.is("forged(1, 0, 1)", x.forged(1, 0, 1), 1);
        // {0, 1}: 7, 3: 7, 3 days.
        Due.is("gains(3)", x.gains(3), NONE);
        Due.is("rests(1)", x.rests(1), 3);
    }
}
