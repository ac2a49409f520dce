/**
 * A court that finds shares of guilt. The document numbers what it promises; the words in capitals
 * there are the words of the comments here.
 *
 * No call makes an object: every row that a call needs is made with the court and used again.
 */
public final class FifthsOfGuilt {
    public static final int BAD = -1, STATE = -2, FULL = -3, NONE = -9;
    public static final int NO = -1000000;

    private static final int MOST_BYTES = 200;
    private static final int MOST_SUSPECTS = 6;
    private static final int MOST_FACTS = 8;
    private static final int MOST_ALIBIS = 8;
    private static final int MOST_GRUDGE = 20;
    private static final int MOST_COST = 9;
    private static final int MOST_TRUST = 10;
    private static final int MOST_MOVE = 18;
    private static final int NO_MOVE = 9;
    private static final int LAST_PLACE = 3;
    private static final int LAST_HOUR = 23;
    private static final int MOST_DAYS = 60;
    private static final int MOST_UNDONE = 10;
    private static final int MOST_LINES = 6;
    private static final int MOST_Q = 20;
    private static final int IMAGES = 2;
    private static final int FAULTS = -10;
    private static final int TOLD_ON = 3;
    private static final int OTHER_LAW = 20;

    private final TextReader text = new TextReader();
    private final Scales scales = new Scales();
    private final Standing present = new Standing();
    private final Standing[] images = {new Standing(), new Standing()};
    private final boolean[] kept = new boolean[IMAGES];
    private final AnySuspect[] kinds = {
        new AnySuspect(), new Thief(), new Witness(), new Chief(), new Juror(), new Saint()};
    private final int[] clashers = new int[MOST_ALIBIS];
    private final int[] lineSuspect = new int[MOST_LINES];
    private final int[] lineDays = new int[MOST_LINES];
    private int lines;
    private long trace;
    private CaseFile told = new CaseFile();
    private CaseFile draft = new CaseFile();

    public FifthsOfGuilt() {
        told.beginAnew();
        present.beginAnew(told.days);
    }

    // ---- the case

    public int type(int c) {
        if (!within(c, 0, 255)) {
            return BAD;
        }
        if (text.size >= MOST_BYTES) {
            return FULL;
        }
        text.bytes[text.size] = c;
        text.size++;
        return text.size;
    }

    public int clear() {
        int had = text.size;
        text.size = 0;
        return had;
    }

    public int court() {
        int answer = text.readInto(draft);
        if (answer < 0) {
            return answer;
        }
        // The old case's rows serve as the next draft: nothing changes before a text is read whole.
        CaseFile old = told;
        told = draft;
        draft = old;
        text.size = 0;
        present.beginAnew(told.days);
        lines = 0;
        for (int i = 0; i < IMAGES; i++) {
            kept[i] = false;
        }
        return answer;
    }

    public int suspect(int s, int what) {
        if (!isSuspect(s) || !within(what, 0, 3)) {
            return BAD;
        }
        weighNow();
        switch (what) {
            case 0:
                return told.grudge[s];
            case 1:
                return scales.held[s];
            case 2:
                return scales.serves[s];
            default:
                return scales.hours[s];
        }
    }

    public int fact(int f, int what) {
        if (!isFact(f) || !within(what, 0, 2)) {
            return BAD;
        }
        switch (what) {
            case 0:
                return told.cost[f];
            case 1:
                return told.trust[f];
            default:
                return bit(present.facts, f);
        }
    }

    public int moves(int f, int s) {
        if (!isFact(f) || !isSuspect(s)) {
            return NO;
        }
        return told.moves[f * MOST_SUSPECTS + s];
    }

    public int alibi(int a, int what) {
        if (!isAlibi(a) || !within(what, 0, 4)) {
            return BAD;
        }
        switch (what) {
            case 0:
                return told.alibiOf[a];
            case 1:
                return told.place[a];
            case 2:
                return told.from[a];
            case 3:
                return told.to[a];
            default:
                return bit(present.alibis, a);
        }
    }

    // ---- in court

    public int find(int f, int is) {
        if (!isFact(f) || !within(is, 0, 1)) {
            return BAD;
        }
        if (bit(present.facts, f) == is) {
            return STATE;
        }
        present.remember();
        present.facts ^= 1 << f;
        return caseNow();
    }

    public int hear(int a, int is) {
        if (!isAlibi(a) || !within(is, 0, 1)) {
            return BAD;
        }
        if (bit(present.alibis, a) == is) {
            return STATE;
        }
        present.remember();
        present.alibis ^= 1 << a;
        return caseNow();
    }

    public int days(int n) {
        if (!within(n, 0, MOST_DAYS)) {
            return BAD;
        }
        if (present.days == n) {
            return STATE;
        }
        int were = present.days;
        present.remember();
        present.days = n;
        return were;
    }

    public int undo() {
        if (present.known == 0) {
            return STATE;
        }
        present.stepBack();
        return present.known;
    }

    public int share(int s, int what) {
        if (!isSuspect(s) || !within(what, 0, 1)) {
            return BAD;
        }
        weighNow();
        if (scales.all == 0) {
            return STATE;
        }
        int number = what == 0 ? scales.held[s] : scales.all;
        return number / commonDivisor(scales.all, scales.held[s]);
    }

    public int now(int what) {
        switch (what) {
            case 0:
                return caseNow();
            case 1:
                return present.facts;
            case 2:
                return present.alibis;
            case 3:
                return present.days;
            case 4:
                weighNow();
                return scales.allServe();
            default:
                return BAD;
        }
    }

    // ---- proofs, alibis

    public int proof(int s, int p, int q, int what) {
        if (!isSuspect(s) || !isFraction(p, q) || !within(what, 0, 1)) {
            return BAD;
        }
        return costOrSet(cheapest(s, p, q, true), what);
    }

    public int cleared(int s, int p, int q, int what) {
        if (!isSuspect(s) || !isFraction(p, q) || !within(what, 0, 1)) {
            return BAD;
        }
        return costOrSet(cheapest(s, p, q, false), what);
    }

    public int forged(int s, int p, int q) {
        if (!isSuspect(s) || !isFraction(p, q)) {
            return BAD;
        }
        weighNow();
        int left = told.deedTo - told.deedFrom + 1 - scales.hours[s];
        for (int taken = 0; taken <= left; taken++) {
            int held = Math.max(0, scales.held[s] - taken);
            int all = scales.all - scales.held[s] + held;
            if (isNoMore(held, all, p, q)) {
                return taken;
            }
        }
        return NONE;
    }

    public int clash(int what) {
        if (!within(what, 0, 1)) {
            return BAD;
        }
        int pairs = matchClashers();
        return what == 0 ? pairs : fewestFalse();
    }

    // ---- bands, cells, laws, books

    public int rests(int what) {
        if (!within(what, 0, 1)) {
            return BAD;
        }
        weighNow();
        int resting = 0;
        int least = NONE;
        for (int set = 0; set < 1 << told.suspects; set++) {
            if (firstGainer(set) != NONE) {
                continue;
            }
            if (resting == 0) {
                least = set;
            }
            resting++;
        }
        return what == 0 ? resting : least;
    }

    public int gains(int set) {
        if (!within(set, 0, (1 << told.suspects) - 1)) {
            return BAD;
        }
        weighNow();
        return firstGainer(set);
    }

    public int cellsFor(int n) {
        if (!within(n, 1, MOST_DAYS)) {
            return BAD;
        }
        weighNow();
        return cellsNeeded(n);
    }

    public int sits(int n, int s, int day) {
        if (!within(n, 1, MOST_DAYS) || !isSuspect(s) || !within(day, 0, n - 1)) {
            return BAD;
        }
        weighNow();
        if (cellsNeeded(n) == NONE) {
            return NONE;
        }
        int begins = 0;
        for (int i = 0; i < s; i++) {
            begins += scales.serves[i];
        }
        // Nobody serves more than n days, so he meets a day of the round in one cell at most.
        int ahead = (day - begins % n + n) % n;
        return ahead < scales.serves[s] ? (begins + ahead) / n : NONE;
    }

    public int wronged(int s) {
        if (s != -1 && !isSuspect(s)) {
            return NO;
        }
        weighNow();
        if (s >= 0) {
            return wrongTo(s);
        }
        int all = 0;
        for (int i = 0; i < told.suspects; i++) {
            all += Math.abs(wrongTo(i));
        }
        return all;
    }

    public int book(int s, int days) {
        if (!isSuspect(s) || !within(days, 0, MOST_DAYS)) {
            return BAD;
        }
        if (lines >= MOST_LINES) {
            return FULL;
        }
        lineSuspect[lines] = s;
        lineDays[lines] = days;
        lines++;
        return lines;
    }

    public int burn() {
        int had = lines;
        lines = 0;
        return had;
    }

    public int books(int what) {
        if (!within(what, 0, 2)) {
            return BAD;
        }
        scales.countHours(told, present.alibis);
        int fitting = 0;
        int least = NONE;
        int inAll = NONE;
        for (int set = 0; set < 1 << told.facts; set++) {
            if (!fitsBook(set)) {
                continue;
            }
            if (fitting == 0) {
                least = set;
                inAll = set;
            }
            inAll &= set;
            fitting++;
        }
        if (what == 0) {
            return fitting;
        }
        return what == 1 ? least : inAll;
    }

    public int innocent(int s) {
        if (!isSuspect(s)) {
            return BAD;
        }
        scales.countHours(told, present.alibis);
        int times = 0;
        for (int set = 0; set < 1 << told.facts; set++) {
            if (scales.heldBy(told, set, s) == 0) {
                times++;
            }
        }
        return times;
    }

    // ---- kinds, images

    public int mark(int kind, int s) {
        if (!within(kind, 0, kinds.length - 1) || !isSuspect(s)) {
            return NO;
        }
        weighNow();
        return kinds[kind].markOf(this, s);
    }

    public int keep(int image) {
        if (!within(image, 0, IMAGES - 1)) {
            return BAD;
        }
        images[image].become(present);
        kept[image] = true;
        return caseNow();
    }

    public int back(int image) {
        if (!within(image, 0, IMAGES - 1)) {
            return BAD;
        }
        if (!kept[image]) {
            return STATE;
        }
        present.become(images[image]);
        return caseNow();
    }

    public int count(int what) {
        switch (what) {
            case 0:
                return told.suspects;
            case 1:
                return told.facts;
            case 2:
                return told.alibis;
            case 3:
                return lines;
            case 4:
                return present.known;
            case 5:
                return text.size;
            default:
                return BAD;
        }
    }

    public long trace() {
        return trace;
    }

    // ---- what the calls share

    private static boolean within(int n, int least, int most) {
        return n >= least && n <= most;
    }

    private static int bit(int set, int i) {
        return set >> i & 1;
    }

    private boolean isSuspect(int s) {
        return within(s, 0, told.suspects - 1);
    }

    private boolean isFact(int f) {
        return within(f, 0, told.facts - 1);
    }

    private boolean isAlibi(int a) {
        return within(a, 0, told.alibis - 1);
    }

    private static boolean isFraction(int p, int q) {
        return within(q, 1, MOST_Q) && within(p, 0, q);
    }

    private void weighNow() {
        scales.countHours(told, present.alibis);
        scales.weigh(told, present.facts);
        scales.sentence(present.days);
    }

    private int caseNow() {
        weighNow();
        return scales.all;
    }

    private static int commonDivisor(int a, int b) {
        int greater = a;
        int lesser = b;
        // Euclid's steps for two ints are fewer than fifty.
        for (int step = 0; step < 64 && lesser != 0; step++) {
            int rest = greater % lesser;
            greater = lesser;
            lesser = rest;
        }
        // Of 0 and 0 any number would do; 1 is one that can divide.
        return Math.max(1, greater);
    }

    private static boolean isNoMore(int held, int all, int p, int q) {
        return all == 0 || held * q <= p * all;
    }

    private static boolean isNoLess(int held, int all, int p, int q) {
        return all != 0 && held * q >= p * all;
    }

    /** The cheapest set of FACTS not FOUND that is a PROOF (or by which he is CLEARED), or NONE. */
    private int cheapest(int s, int p, int q, boolean isProof) {
        scales.countHours(told, present.alibis);
        int best = NONE;
        int bestCost = 0;
        for (int set = 0; set < 1 << told.facts; set++) {
            if ((set & present.facts) != 0) {
                continue;
            }
            int cost = told.costOf(set);
            if (best != NONE && cost >= bestCost) {
                continue;
            }
            scales.weigh(told, set | present.facts);
            int held = scales.held[s];
            if (isProof ? isNoLess(held, scales.all, p, q) : isNoMore(held, scales.all, p, q)) {
                best = set;
                bestCost = cost;
            }
        }
        return best;
    }

    private int costOrSet(int set, int what) {
        if (set == NONE || what == 1) {
            return set;
        }
        return told.costOf(set);
    }

    /** Notes for each ALIBI which later ones it clashes with; answers how many pairs there are. */
    private int matchClashers() {
        int pairs = 0;
        for (int a = 0; a < told.alibis; a++) {
            clashers[a] = 0;
            for (int b = a + 1; b < told.alibis; b++) {
                if (told.doClash(a, b)) {
                    clashers[a] |= 1 << b;
                    pairs++;
                }
            }
        }
        return pairs;
    }

    private int fewestFalse() {
        int best = (1 << told.alibis) - 1;
        for (int set = 0; set < 1 << told.alibis; set++) {
            if (Integer.bitCount(set) < Integer.bitCount(best) && leavesNoClash(set)) {
                best = set;
            }
        }
        return best;
    }

    private boolean leavesNoClash(int without) {
        for (int a = 0; a < told.alibis; a++) {
            if (bit(without, a) == 0 && (clashers[a] & ~without) != 0) {
                return false;
            }
        }
        return true;
    }

    private int bandHeld(int tellers, int s) {
        int tells = bit(tellers, s);
        int own = tells == 1 ? scales.held[s] / 2 : scales.held[s];
        return own + TOLD_ON * (Integer.bitCount(tellers) - tells);
    }

    private int bandDays(int tellers, int s) {
        int all = 0;
        for (int i = 0; i < told.suspects; i++) {
            all += bandHeld(tellers, i);
        }
        return all == 0 ? 0 : present.days * bandHeld(tellers, s) / all;
    }

    private int firstGainer(int tellers) {
        for (int s = 0; s < told.suspects; s++) {
            if (bandDays(tellers ^ 1 << s, s) < bandDays(tellers, s)) {
                return s;
            }
        }
        return NONE;
    }

    /** For n days, 1 at least. */
    private int cellsNeeded(int n) {
        for (int s = 0; s < told.suspects; s++) {
            if (scales.serves[s] > n) {
                return NONE;
            }
        }
        return (scales.allServe() + n - 1) / n;
    }

    private int wrongTo(int s) {
        int otherwise = Math.min(present.days, present.days * scales.held[s] / OTHER_LAW);
        return scales.serves[s] - otherwise;
    }

    private boolean fitsBook(int facts) {
        scales.weigh(told, facts);
        scales.sentence(present.days);
        for (int i = 0; i < lines; i++) {
            if (scales.serves[lineSuspect[i]] != lineDays[i]) {
                return false;
            }
        }
        return true;
    }

    // ---- classes inside

    /** What a text tells; nothing of it changes until the next one is read. */
    private static final class CaseFile {
        int suspects;
        int facts;
        int alibis;
        int deedFrom;
        int deedTo;
        int days;
        final int[] grudge = new int[MOST_SUSPECTS];
        final int[] cost = new int[MOST_FACTS];
        final int[] trust = new int[MOST_FACTS];
        final int[] moves = new int[MOST_FACTS * MOST_SUSPECTS];
        final int[] trustedMoves = new int[MOST_FACTS * MOST_SUSPECTS];
        final int[] alibiOf = new int[MOST_ALIBIS];
        final int[] place = new int[MOST_ALIBIS];
        final int[] from = new int[MOST_ALIBIS];
        final int[] to = new int[MOST_ALIBIS];

        void beginAnew() {
            suspects = 0;
            facts = 0;
            alibis = 0;
            deedFrom = 8;
            deedTo = 15;
            days = 10;
        }

        void addSuspect(int itsGrudge) {
            grudge[suspects] = itsGrudge;
            suspects++;
        }

        void addFact(int[] numbers) {
            cost[facts] = numbers[0];
            trust[facts] = numbers[1];
            for (int s = 0; s < MOST_SUSPECTS; s++) {
                // Rows are used again, so those told later need their 0 written.
                int move = s < suspects ? numbers[2 + s] - NO_MOVE : 0;
                moves[facts * MOST_SUSPECTS + s] = move;
                trustedMoves[facts * MOST_SUSPECTS + s] = move * numbers[1] / MOST_TRUST;
            }
            facts++;
        }

        void addAlibi(int[] numbers) {
            alibiOf[alibis] = numbers[0];
            place[alibis] = numbers[1];
            from[alibis] = numbers[2];
            to[alibis] = numbers[3];
            alibis++;
        }

        int costOf(int set) {
            int all = 0;
            for (int f = 0; f < facts; f++) {
                if (bit(set, f) == 1) {
                    all += cost[f];
                }
            }
            return all;
        }

        boolean doClash(int a, int b) {
            return alibiOf[a] == alibiOf[b] && place[a] != place[b]
                && from[a] <= to[b] && from[b] <= to[a];
        }
    }

    /** THE TEXT, and how it is read TOKEN by TOKEN. */
    private static final class TextReader {
        private static final int END = 0;
        private static final int LETTERS = 1;
        private static final int NUMBER = 2;
        private static final int STOP = 3;
        private static final int WRONG = 4;

        final int[] bytes = new int[MOST_BYTES];
        int size;
        private final int[] numbers = new int[2 + MOST_SUSPECTS];
        private int place;
        private int token;
        private int tokenPlace;
        private int tokenValue;
        private boolean deedTold;
        private boolean daysTold;

        /** How many ITEMS a file got, or -10 less FAULT: then it is of no use. */
        int readInto(CaseFile file) {
            file.beginAnew();
            place = 0;
            deedTold = false;
            daysTold = false;
            for (int items = 0; items <= MOST_BYTES; items++) {
                nextToken();
                if (token == END) {
                    return items;
                }
                if (!readItem(file)) {
                    return FAULTS - tokenPlace;
                }
            }
            return FAULTS - size;
        }

        /** Whether an ITEM stands from this TOKEN on; if not, the TOKEN is the one at FAULT. */
        private boolean readItem(CaseFile file) {
            if (token != LETTERS || !mayBegin(tokenValue, file)) {
                return false;
            }
            int letter = tokenValue;
            int due = numbersDue(letter, file);
            for (int i = 0; i < due; i++) {
                nextToken();
                if (token != NUMBER || !within(tokenValue, least(letter, i), most(letter, i, file))) {
                    return false;
                }
                numbers[i] = tokenValue;
            }
            nextToken();
            if (token != STOP) {
                return false;
            }
            addItem(letter, file);
            return true;
        }

        private boolean mayBegin(int letter, CaseFile file) {
            switch (letter) {
                case 's':
                    return file.suspects < MOST_SUSPECTS;
                case 'f':
                    return file.facts < MOST_FACTS;
                case 'a':
                    return file.alibis < MOST_ALIBIS;
                case 't':
                    return !deedTold;
                case 'd':
                    return !daysTold;
                default:
                    return false;
            }
        }

        private static int numbersDue(int letter, CaseFile file) {
            switch (letter) {
                case 'f':
                    return 2 + file.suspects;
                case 'a':
                    return 4;
                case 't':
                    return 2;
                default:
                    return 1;
            }
        }

        private int least(int letter, int i) {
            if (letter == 'f' && i == 0) {
                return 1;
            }
            if (letter == 'a' && i == 3) {
                return numbers[2];
            }
            return letter == 't' && i == 1 ? numbers[0] : 0;
        }

        private static int most(int letter, int i, CaseFile file) {
            switch (letter) {
                case 's':
                    return MOST_GRUDGE;
                case 'f':
                    return i == 0 ? MOST_COST : i == 1 ? MOST_TRUST : MOST_MOVE;
                case 'a':
                    return i == 0 ? file.suspects - 1 : i == 1 ? LAST_PLACE : LAST_HOUR;
                case 't':
                    return LAST_HOUR;
                default:
                    return MOST_DAYS;
            }
        }

        private void addItem(int letter, CaseFile file) {
            switch (letter) {
                case 's':
                    file.addSuspect(numbers[0]);
                    break;
                case 'f':
                    file.addFact(numbers);
                    break;
                case 'a':
                    file.addAlibi(numbers);
                    break;
                case 't':
                    file.deedFrom = numbers[0];
                    file.deedTo = numbers[1];
                    deedTold = true;
                    break;
                default:
                    file.days = numbers[0];
                    daysTold = true;
                    break;
            }
        }

        private void nextToken() {
            while (place < size && bytes[place] == ' ') {
                place++;
            }
            tokenPlace = place;
            tokenValue = 0;
            if (place >= size) {
                token = END;
            } else if (bytes[place] == ';') {
                token = STOP;
                place++;
            } else if (within(bytes[place], 'a', 'z')) {
                takeLetters();
            } else if (within(bytes[place], '0', '9')) {
                takeNumber();
            } else {
                token = WRONG;
            }
        }

        private void takeLetters() {
            int first = bytes[place];
            while (place < size && within(bytes[place], 'a', 'z')) {
                place++;
            }
            token = LETTERS;
            // Every ITEM begins with one letter; 0 is the value of longer ones, which begin none.
            tokenValue = place - tokenPlace == 1 ? first : 0;
        }

        private void takeNumber() {
            int first = bytes[place];
            while (place < size && within(bytes[place], '0', '9')) {
                // Beyond two digits it is WRONG anyway, and must not run over.
                tokenValue = Math.min(tokenValue * 10 + bytes[place] - '0', 1000);
                place++;
            }
            int digits = place - tokenPlace;
            token = digits > 2 || digits == 2 && first == '0' ? WRONG : NUMBER;
        }
    }

    /** NOW: what an IMAGE keeps. */
    private static final class Standing {
        int facts;
        int alibis;
        int days;
        int known;
        private final int[] before = new int[MOST_UNDONE];

        void beginAnew(int itsDays) {
            facts = 0;
            alibis = 0;
            days = itsDays;
            known = 0;
        }

        void become(Standing other) {
            facts = other.facts;
            alibis = other.alibis;
            days = other.days;
            known = other.known;
            System.arraycopy(other.before, 0, before, 0, MOST_UNDONE);
        }

        /** Asked ahead of a change. All that may change fits into one number, so no deed is noted. */
        void remember() {
            if (known >= MOST_UNDONE) {
                System.arraycopy(before, 1, before, 0, MOST_UNDONE - 1);
                known = MOST_UNDONE - 1;
            }
            before[known] = days << 16 | alibis << 8 | facts;
            known++;
        }

        /** Asked only when a change is known. */
        void stepBack() {
            known--;
            facts = before[known] & 255;
            alibis = before[known] >> 8 & 255;
            days = before[known] >> 16;
        }
    }

    /** What is HELD against each, by any set of FACTS, and what each SERVES for it. */
    private static final class Scales {
        final int[] held = new int[MOST_SUSPECTS];
        final int[] serves = new int[MOST_SUSPECTS];
        final int[] hours = new int[MOST_SUSPECTS];
        int all;
        private final int[] rest = new int[MOST_SUSPECTS];
        private int suspects;

        /** Comes ahead of weigh and heldBy: ALIBIS stay while many sets of FACTS are weighed. */
        void countHours(CaseFile file, int alibis) {
            suspects = file.suspects;
            int deed = hoursFromTo(file.deedFrom, file.deedTo);
            for (int s = 0; s < suspects; s++) {
                int elsewhere = 0;
                for (int a = 0; a < file.alibis; a++) {
                    if (bit(alibis, a) == 1 && file.alibiOf[a] == s) {
                        elsewhere |= hoursFromTo(file.from[a], file.to[a]);
                    }
                }
                hours[s] = Integer.bitCount(elsewhere & deed);
            }
        }

        private static int hoursFromTo(int from, int to) {
            return (1 << to + 1) - (1 << from);
        }

        void weigh(CaseFile file, int facts) {
            all = 0;
            for (int s = 0; s < suspects; s++) {
                held[s] = heldBy(file, facts, s);
                all += held[s];
            }
        }

        int heldBy(CaseFile file, int facts, int s) {
            int sum = file.grudge[s];
            for (int f = 0; f < file.facts; f++) {
                if (bit(facts, f) == 1) {
                    sum += file.trustedMoves[f * MOST_SUSPECTS + s];
                }
            }
            return Math.max(0, Math.max(0, sum) - hours[s]);
        }

        /** By what was weighed last. */
        void sentence(int days) {
            int left = all == 0 ? 0 : days;
            for (int s = 0; s < suspects; s++) {
                serves[s] = all == 0 ? 0 : days * held[s] / all;
                rest[s] = all == 0 ? 0 : days * held[s] % all;
                left -= serves[s];
            }
            // The rests are left * all together, each below all: more have one than days are left.
            for (int i = 0; i < MOST_SUSPECTS && left > 0; i++) {
                giveOneDayMore();
                left--;
            }
        }

        private void giveOneDayMore() {
            int first = 0;
            for (int s = 1; s < suspects; s++) {
                if (rest[s] > rest[first]) {
                    first = s;
                }
            }
            serves[first]++;
            rest[first] = -1;
        }

        int allServe() {
            int sum = 0;
            for (int s = 0; s < suspects; s++) {
                sum += serves[s];
            }
            return sum;
        }
    }

    /**
     * KINDS: a class's super is the KIND above, and each body adds its own number to THE TRACE.
     * They are asked when NOW has been weighed.
     */
    private static class AnySuspect {
        int markOf(FifthsOfGuilt court, int s) {
            court.trace += 1;
            return court.scales.held[s];
        }
    }

    private static class Thief extends AnySuspect {
        int markOf(FifthsOfGuilt court, int s) {
            court.trace += 10;
            return super.markOf(court, s) + court.told.grudge[s];
        }
    }

    private static class Witness extends AnySuspect {
        int markOf(FifthsOfGuilt court, int s) {
            court.trace += 100;
            int has = 0;
            for (int a = 0; a < court.told.alibis; a++) {
                if (court.told.alibiOf[a] == s) {
                    has++;
                }
            }
            return super.markOf(court, s) - has;
        }
    }

    private static final class Chief extends Thief {
        int markOf(FifthsOfGuilt court, int s) {
            court.trace += 1000;
            return super.markOf(court, s) * 2;
        }
    }

    private static final class Juror extends Witness {
        int markOf(FifthsOfGuilt court, int s) {
            court.trace += 10000;
            return super.markOf(court, s) + s;
        }
    }

    private static final class Saint extends AnySuspect {
        int markOf(FifthsOfGuilt court, int s) {
            court.trace += 100000;
            return super.markOf(court, s) + Integer.bitCount(court.present.facts);
        }
    }
}
