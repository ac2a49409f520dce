import java.math.BigInteger;
import java.util.ArrayDeque;
import java.util.ArrayList;
import java.util.Arrays;
import java.util.Deque;
import java.util.List;
import java.util.TreeSet;
import java.util.function.IntPredicate;
import java.util.stream.IntStream;

/**
 * The document read a second time, plainly and slowly, with the whole Java library: what OracleTest
 * holds the class against. Nothing of the class's code is used here.
 */
final class SlowCourt {
    static final int BAD = -1, STATE = -2, FULL = -3, NONE = -9, NO = -1000000;

    record Fact(int cost, int trust, List<Integer> moves) { }

    record Alibi(int suspect, int place, int from, int to) {
        boolean has(int hour) {
            return hour >= from && hour <= to;
        }
    }

    record Change(char what, int which, int before) { }

    record Image(TreeSet<Integer> found, TreeSet<Integer> heard, int days, List<Change> changes) { }

    private final StringBuilder text = new StringBuilder();
    private List<Integer> grudges = new ArrayList<>();
    private List<Fact> facts = new ArrayList<>();
    private List<Alibi> alibis = new ArrayList<>();
    private int deedFrom = 8, deedTo = 15, days = 10;
    private TreeSet<Integer> found = new TreeSet<>(), heard = new TreeSet<>();
    private Deque<Change> changes = new ArrayDeque<>();
    private final List<int[]> book = new ArrayList<>();
    private Image[] images = new Image[2];
    private long trace;

    // ---- reading

    private static final class Fault extends Exception {
        private static final long serialVersionUID = 1;
        final int place;

        Fault(int place) {
            super("fault", null, false, false);
            this.place = place;
        }
    }

    private int at;

    private char look() throws Fault {
        while (at < text.length() && text.charAt(at) == ' ') {
            at++;
        }
        if (at == text.length()) {
            throw new Fault(at);
        }
        return text.charAt(at);
    }

    private int number(int least, int most) throws Fault {
        look();
        int begin = at;
        while (at < text.length() && "0123456789".indexOf(text.charAt(at)) >= 0) {
            at++;
        }
        String digits = text.substring(begin, at);
        if (digits.isEmpty() || digits.length() > 1 && digits.startsWith("0")) {
            throw new Fault(begin);
        }
        BigInteger n = new BigInteger(digits);
        if (n.compareTo(BigInteger.valueOf(least)) < 0 || n.compareTo(BigInteger.valueOf(Math.min(99, most))) > 0) {
            throw new Fault(begin);
        }
        return n.intValue();
    }

    private void stop() throws Fault {
        if (look() != ';') {
            throw new Fault(at);
        }
        at++;
    }

    private void item(SlowCourt to, boolean[] once) throws Fault {
        look();
        int begin = at;
        while (at < text.length() && text.charAt(at) >= 'a' && text.charAt(at) <= 'z') {
            at++;
        }
        String word = text.substring(begin, at);
        if (word.equals("s") && to.grudges.size() < 6) {
            to.grudges.add(number(0, 20));
        } else if (word.equals("f") && to.facts.size() < 8) {
            int cost = number(1, 9);
            int trust = number(0, 10);
            List<Integer> moves = new ArrayList<>();
            while (moves.size() < to.grudges.size()) {
                moves.add(number(0, 18) - 9);
            }
            to.facts.add(new Fact(cost, trust, moves));
        } else if (word.equals("a") && to.alibis.size() < 8) {
            int s = number(0, to.grudges.size() - 1);
            int p = number(0, 3);
            int f = number(0, 23);
            to.alibis.add(new Alibi(s, p, f, number(f, 23)));
        } else if (word.equals("t") && !once[0]) {
            once[0] = true;
            to.deedFrom = number(0, 23);
            to.deedTo = number(to.deedFrom, 23);
        } else if (word.equals("d") && !once[1]) {
            once[1] = true;
            to.days = number(0, 60);
        } else {
            throw new Fault(begin);
        }
        stop();
    }

    int court() {
        SlowCourt to = new SlowCourt();
        boolean[] once = new boolean[2];
        int items = 0;
        at = 0;
        try {
            while (text.substring(at).chars().anyMatch(c -> c != ' ')) {
                item(to, once);
                items++;
            }
        } catch (Fault fault) {
            return -10 - fault.place;
        }
        grudges = to.grudges;
        facts = to.facts;
        alibis = to.alibis;
        deedFrom = to.deedFrom;
        deedTo = to.deedTo;
        days = to.days;
        found = new TreeSet<>();
        heard = new TreeSet<>();
        changes = new ArrayDeque<>();
        book.clear();
        images = new Image[2];
        text.setLength(0);
        return items;
    }

    int type(int c) {
        if (c < 0 || c > 255) {
            return BAD;
        }
        if (text.length() == 200) {
            return FULL;
        }
        return text.append((char) c).length();
    }

    int clear() {
        int had = text.length();
        text.setLength(0);
        return had;
    }

    // ---- weighing

    private static TreeSet<Integer> setOf(int bits) {
        TreeSet<Integer> set = new TreeSet<>();
        for (int i = 0; i < 31; i++) {
            if ((bits & 1 << i) != 0) {
                set.add(i);
            }
        }
        return set;
    }

    private static int bitsOf(TreeSet<Integer> set) {
        return set.stream().mapToInt(i -> 1 << i).sum();
    }

    private int hours(int s) {
        int n = 0;
        for (int h = deedFrom; h <= deedTo; h++) {
            int hour = h;
            if (heard.stream().map(alibis::get).anyMatch(a -> a.suspect() == s && a.has(hour))) {
                n++;
            }
        }
        return n;
    }

    private int held(int s, TreeSet<Integer> by) {
        int sum = grudges.get(s);
        for (int f : by) {
            Fact fact = facts.get(f);
            int product = (s < fact.moves().size() ? fact.moves().get(s) : 0) * fact.trust();
            sum += product < 0 ? -(-product / 10) : product / 10;
        }
        sum = sum < 0 ? 0 : sum;
        sum -= hours(s);
        return sum < 0 ? 0 : sum;
    }

    private int[] allHeld(TreeSet<Integer> by) {
        return IntStream.range(0, grudges.size()).map(s -> held(s, by)).toArray();
    }

    private int theCase(TreeSet<Integer> by) {
        return Arrays.stream(allHeld(by)).sum();
    }

    private int[] served(TreeSet<Integer> by) {
        int[] held = allHeld(by);
        int all = theCase(by);
        int[] serves = new int[held.length];
        if (all == 0) {
            return serves;
        }
        List<Integer> order = new ArrayList<>();
        int left = days;
        for (int s = 0; s < held.length; s++) {
            serves[s] = days * held[s] / all;
            left -= serves[s];
            order.add(s);
        }
        order.sort((a, b) -> {
            int byRest = Integer.compare(days * held[b] % all, days * held[a] % all);
            return byRest != 0 ? byRest : Integer.compare(a, b);
        });
        for (int i = 0; i < left; i++) {
            serves[order.get(i)]++;
        }
        return serves;
    }

    private boolean noSuspect(int s) {
        return s < 0 || s >= grudges.size();
    }

    int suspect(int s, int what) {
        if (noSuspect(s) || what < 0 || what > 3) {
            return BAD;
        }
        return what == 0 ? grudges.get(s) : what == 1 ? held(s, found) : what == 2 ? served(found)[s] : hours(s);
    }

    int fact(int f, int what) {
        if (f < 0 || f >= facts.size() || what < 0 || what > 2) {
            return BAD;
        }
        return what == 0 ? facts.get(f).cost() : what == 1 ? facts.get(f).trust() : found.contains(f) ? 1 : 0;
    }

    int moves(int f, int s) {
        if (f < 0 || f >= facts.size() || noSuspect(s)) {
            return NO;
        }
        List<Integer> moves = facts.get(f).moves();
        return s < moves.size() ? moves.get(s) : 0;
    }

    int alibi(int a, int what) {
        if (a < 0 || a >= alibis.size() || what < 0 || what > 4) {
            return BAD;
        }
        Alibi x = alibis.get(a);
        return new int[] {x.suspect(), x.place(), x.from(), x.to(), heard.contains(a) ? 1 : 0}[what];
    }

    // ---- in court

    private void change(char what, int which, int before) {
        changes.addLast(new Change(what, which, before));
        if (changes.size() > 10) {
            changes.removeFirst();
        }
    }

    private static void put(TreeSet<Integer> set, int i, int is) {
        if (is == 1) {
            set.add(i);
        } else {
            set.remove(i);
        }
    }

    int find(int f, int is) {
        if (f < 0 || f >= facts.size() || is != 0 && is != 1) {
            return BAD;
        }
        if (found.contains(f) == (is == 1)) {
            return STATE;
        }
        change('f', f, 1 - is);
        put(found, f, is);
        return theCase(found);
    }

    int hear(int a, int is) {
        if (a < 0 || a >= alibis.size() || is != 0 && is != 1) {
            return BAD;
        }
        if (heard.contains(a) == (is == 1)) {
            return STATE;
        }
        change('a', a, 1 - is);
        put(heard, a, is);
        return theCase(found);
    }

    int days(int n) {
        if (n < 0 || n > 60) {
            return BAD;
        }
        if (n == days) {
            return STATE;
        }
        int were = days;
        change('d', 0, were);
        days = n;
        return were;
    }

    int undo() {
        if (changes.isEmpty()) {
            return STATE;
        }
        Change last = changes.removeLast();
        switch (last.what()) {
            case 'f' -> put(found, last.which(), last.before());
            case 'a' -> put(heard, last.which(), last.before());
            default -> days = last.before();
        }
        return changes.size();
    }

    int share(int s, int what) {
        if (noSuspect(s) || what != 0 && what != 1) {
            return BAD;
        }
        if (theCase(found) == 0) {
            return STATE;
        }
        BigInteger upper = BigInteger.valueOf(held(s, found));
        BigInteger lower = BigInteger.valueOf(theCase(found));
        return (what == 0 ? upper : lower).divide(upper.gcd(lower)).intValue();
    }

    int now(int what) {
        return switch (what) {
            case 0 -> theCase(found);
            case 1 -> bitsOf(found);
            case 2 -> bitsOf(heard);
            case 3 -> days;
            case 4 -> Arrays.stream(served(found)).sum();
            default -> BAD;
        };
    }

    // ---- proofs, alibis

    private int cost(int set) {
        return setOf(set).stream().mapToInt(f -> facts.get(f).cost()).sum();
    }

    private int cheapest(int what, IntPredicate does) {
        int[] sets = IntStream.range(0, 1 << facts.size())
            .filter(set -> (set & bitsOf(found)) == 0).filter(does).toArray();
        int least = Arrays.stream(sets).map(this::cost).min().orElse(NONE);
        return what == 0 ? least : Arrays.stream(sets).filter(set -> cost(set) == least).min().orElse(NONE);
    }

    private static boolean noFraction(int p, int q) {
        return q < 1 || q > 20 || p < 0 || p > q;
    }

    int proof(int s, int p, int q, int what) {
        if (noSuspect(s) || noFraction(p, q) || what != 0 && what != 1) {
            return BAD;
        }
        return cheapest(what, set -> {
            TreeSet<Integer> by = setOf(set | bitsOf(found));
            return theCase(by) != 0 && held(s, by) * q >= p * theCase(by);
        });
    }

    int cleared(int s, int p, int q, int what) {
        if (noSuspect(s) || noFraction(p, q) || what != 0 && what != 1) {
            return BAD;
        }
        return cheapest(what, set -> {
            TreeSet<Integer> by = setOf(set | bitsOf(found));
            return theCase(by) == 0 || held(s, by) * q <= p * theCase(by);
        });
    }

    int forged(int s, int p, int q) {
        if (noSuspect(s) || noFraction(p, q)) {
            return BAD;
        }
        int others = theCase(found) - held(s, found);
        return IntStream.rangeClosed(0, deedTo - deedFrom + 1 - hours(s)).filter(taken -> {
            int his = Math.max(held(s, found) - taken, 0);
            return others + his == 0 || his * q <= p * (others + his);
        }).findFirst().orElse(NONE);
    }

    private int pairs(int without) {
        int pairs = 0;
        for (int i = 0; i < alibis.size(); i++) {
            for (int j = 0; j < i; j++) {
                Alibi a = alibis.get(i);
                Alibi b = alibis.get(j);
                boolean meet = IntStream.range(0, 24).anyMatch(h -> a.has(h) && b.has(h));
                boolean stand = (without & (1 << i | 1 << j)) == 0;
                if (stand && meet && a.suspect() == b.suspect() && a.place() != b.place()) {
                    pairs++;
                }
            }
        }
        return pairs;
    }

    int clash(int what) {
        if (what != 0 && what != 1) {
            return BAD;
        }
        if (what == 0) {
            return pairs(0);
        }
        for (int many = 0; many <= alibis.size(); many++) {
            for (int set = 0; set < 1 << alibis.size(); set++) {
                if (Integer.bitCount(set) == many && pairs(set) == 0) {
                    return set;
                }
            }
        }
        throw new IllegalStateException();
    }

    // ---- bands, cells, laws, books

    private int bandDays(int set, int s) {
        int[] held = allHeld(found);
        for (int i = 0; i < held.length; i++) {
            if (setOf(set).contains(i)) {
                held[i] /= 2;
            }
            for (int other : setOf(set)) {
                held[i] += other == i ? 0 : 3;
            }
        }
        int all = Arrays.stream(held).sum();
        return all == 0 ? 0 : days * held[s] / all;
    }

    int gains(int set) {
        if (set < 0 || set >= 1 << grudges.size()) {
            return BAD;
        }
        return IntStream.range(0, grudges.size())
            .filter(s -> bandDays(set ^ 1 << s, s) < bandDays(set, s)).findFirst().orElse(NONE);
    }

    int rests(int what) {
        if (what != 0 && what != 1) {
            return BAD;
        }
        int[] sets = IntStream.range(0, 1 << grudges.size()).filter(set -> gains(set) == NONE).toArray();
        return what == 0 ? sets.length : sets.length == 0 ? NONE : sets[0];
    }

    int cellsFor(int n) {
        if (n < 1 || n > 60) {
            return BAD;
        }
        if (Arrays.stream(served(found)).anyMatch(d -> d > n)) {
            return NONE;
        }
        int cells = 0;
        while (cells * n < Arrays.stream(served(found)).sum()) {
            cells++;
        }
        return cells;
    }

    int sits(int n, int s, int day) {
        if (n < 1 || n > 60 || noSuspect(s) || day < 0 || day >= n) {
            return BAD;
        }
        if (cellsFor(n) == NONE) {
            return NONE;
        }
        int cell = 0;
        int today = 0;
        int answer = NONE;
        int[] serves = served(found);
        for (int i = 0; i < serves.length; i++) {
            for (int d = 0; d < serves[i]; d++) {
                if (i == s && today == day) {
                    answer = cell;
                }
                if (++today == n) {
                    today = 0;
                    cell++;
                }
            }
        }
        return answer;
    }

    int wronged(int s) {
        if (s != -1 && noSuspect(s)) {
            return NO;
        }
        int[] more = IntStream.range(0, grudges.size())
            .map(i -> served(found)[i] - Math.min(days, days * held(i, found) / 20)).toArray();
        return s == -1 ? Arrays.stream(more).map(Math::abs).sum() : more[s];
    }

    int book(int s, int n) {
        if (noSuspect(s) || n < 0 || n > 60) {
            return BAD;
        }
        if (book.size() == 6) {
            return FULL;
        }
        book.add(new int[] {s, n});
        return book.size();
    }

    int burn() {
        int had = book.size();
        book.clear();
        return had;
    }

    int books(int what) {
        if (what < 0 || what > 2) {
            return BAD;
        }
        int[] sets = IntStream.range(0, 1 << facts.size()).filter(set -> {
            int[] serves = served(setOf(set));
            return book.stream().allMatch(line -> serves[line[0]] == line[1]);
        }).toArray();
        if (what == 0) {
            return sets.length;
        }
        if (sets.length == 0) {
            return NONE;
        }
        return what == 1 ? sets[0] : Arrays.stream(sets).reduce(-1, (a, b) -> a & b);
    }

    int innocent(int s) {
        if (noSuspect(s)) {
            return BAD;
        }
        return (int) IntStream.range(0, 1 << facts.size()).filter(set -> held(s, setOf(set)) == 0).count();
    }

    // ---- kinds, images

    int mark(int kind, int s) {
        if (kind < 0 || kind > 5 || noSuspect(s)) {
            return NO;
        }
        int has = (int) alibis.stream().filter(a -> a.suspect() == s).count();
        int held = held(s, found);
        trace += new int[] {1, 11, 101, 1011, 10101, 100001}[kind];
        return new int[] {held, held + grudges.get(s), held - has, 2 * (held + grudges.get(s)), held - has + s,
            held + found.size()}[kind];
    }

    int keep(int image) {
        if (image != 0 && image != 1) {
            return BAD;
        }
        images[image] = new Image(new TreeSet<>(found), new TreeSet<>(heard), days, List.copyOf(changes));
        return theCase(found);
    }

    int back(int image) {
        if (image != 0 && image != 1) {
            return BAD;
        }
        if (images[image] == null) {
            return STATE;
        }
        found = new TreeSet<>(images[image].found());
        heard = new TreeSet<>(images[image].heard());
        days = images[image].days();
        changes = new ArrayDeque<>(images[image].changes());
        return theCase(found);
    }

    int count(int what) {
        if (what < 0 || what > 5) {
            return BAD;
        }
        return new int[] {grudges.size(), facts.size(), alibis.size(), book.size(), changes.size(),
            text.length()}[what];
    }

    long trace() {
        return trace;
    }
}
