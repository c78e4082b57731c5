import java.util.ArrayDeque;
import java.util.ArrayList;
import java.util.Arrays;
import java.util.Collections;
import java.util.Deque;
import java.util.List;
import java.util.Map;
import java.util.NoSuchElementException;
import java.util.TreeMap;
import java.util.function.IntUnaryOperator;

/** The document once more, as plainly as the Java library allows, to hold NailGold against. */
public final class Oracle {
    private static final int NONE = -1;

    // ---- state: all that undo and the image hold ----

    private static final class One {
        int trust, nails, tricks, at, heated, state;

        One copy() {
            One o = new One();
            o.trust = trust;
            o.nails = nails;
            o.tricks = tricks;
            o.at = at;
            o.heated = heated;
            o.state = state;
            return o;
        }
    }

    private static final class All {
        List<int[]> steps = new ArrayList<>();
        List<One> men = new ArrayList<>();
        List<int[]> tests = new ArrayList<>();
        List<int[]> rivals = new ArrayList<>();
        List<int[]> log = new ArrayList<>();
        int chest = 500, debts = 0, bar = 10, luck = 0, proof = 10, day = 0, seed = 1, texts = 0;
        List<Line> law = null;

        All copy() {
            All a = new All();
            for (int[] s : steps) a.steps.add(s.clone());
            for (One m : men) a.men.add(m.copy());
            for (int[] t : tests) a.tests.add(t.clone());
            for (int[] r : rivals) a.rivals.add(r.clone());
            for (int[] l : log) a.log.add(l.clone());
            a.chest = chest;
            a.debts = debts;
            a.bar = bar;
            a.luck = luck;
            a.proof = proof;
            a.day = day;
            a.seed = seed;
            a.texts = texts;
            a.law = law;
            return a;
        }

        void spend(int cost) {
            int lack = Math.max(0, cost - chest);
            chest = Math.max(0, chest - cost);
            debts = Math.min(9999, debts + lack);
        }

        int turns(int man, One m, int owed) {
            if (law == null) return -1;
            int by = 0;
            Facts f = new Facts(man, m, owed, day, steps.size());
            for (Line line : law) if (line.when == null || line.when.holds(f)) by += line.by;
            return by;
        }

        int passDay(boolean lucky) {
            int came = 0;
            for (int i = 0; i < men.size(); i++) {
                One m = men.get(i);
                if (m.state != 0) continue;
                if (m.at < steps.size()) {
                    int[] s = steps.get(m.at);
                    if (m.heated == 0) spend(s[1]);
                    m.heated += 1;
                    if (m.heated == s[0]) {
                        m.trust = Math.min(99, m.trust + s[2]);
                        m.at += 1;
                        m.heated = 0;
                    }
                }
                m.trust = Math.max(0, Math.min(99, m.trust + turns(i, m, debts)));
                if (m.trust < bar) {
                    m.state = 1;
                    came++;
                }
            }
            seed = (int) ((1103515245L * seed + 12345L) & 0xffffffffL);
            int draw = (int) (((seed & 0xffffffffL) / 65536) % 32768);
            if (lucky && draw % 100 < luck && men.stream().anyMatch(m -> m.state == 0)) {
                chest = Math.min(9999, chest + 50);
            }
            day = Math.min(9999, day + 1);
            return came;
        }

        All after(int days, boolean lucky) {
            All a = copy();
            for (int i = 0; i < days; i++) a.passDay(lucky);
            return a;
        }
    }

    // ---- texts ----

    private static final class Facts {
        final Map<String, Integer> of = new TreeMap<>();
        final boolean hot, done;

        Facts(int man, One m, int debts, int day, int steps) {
            of.put("man", man);
            of.put("trust", m.trust);
            of.put("nails", m.nails);
            of.put("at", m.at);
            of.put("heated", m.heated);
            of.put("debts", debts / 10);
            of.put("day", day);
            hot = m.heated > 0;
            done = m.at >= steps;
        }
    }

    private interface When {
        boolean holds(Facts f);
    }

    private static final class Line {
        int by;
        When when;
    }

    @SuppressWarnings("serial")
    private static final class Wrong extends Exception {
        final int at;

        Wrong(int at) {
            this.at = at;
        }
    }

    private static final class Things {
        final List<String> text = new ArrayList<>();
        final List<Integer> begin = new ArrayList<>();
        int i = 0;

        Things(String all) {
            java.util.regex.Matcher m = java.util.regex.Pattern.compile("[a-z]+|[0-9]+|[^ ]", java.util.regex.Pattern.DOTALL).matcher(all);
            while (m.find()) {
                text.add(m.group());
                begin.add(m.start());
            }
            text.add("");
            begin.add(all.length());
        }

        String now() {
            return text.get(i);
        }

        boolean over() {
            return now().isEmpty();
        }

        Wrong wrong() {
            return new Wrong(begin.get(i));
        }

        boolean may(String what) {
            if (!now().equals(what)) return false;
            i++;
            return true;
        }

        Things must(String what) throws Wrong {
            if (!may(what)) throw wrong();
            return this;
        }

        int number(int least, int most) throws Wrong {
            if (!now().matches("[0-9]{1,3}")) throw wrong();
            int n = Integer.parseInt(now());
            if (n < least || n > most) throw wrong();
            i++;
            return n;
        }

        int tricks() throws Wrong {
            if (!now().matches("[a-f]+")) throw wrong();
            int bits = 0;
            for (char c : now().toCharArray()) {
                if ((bits & 1 << (c - 'a')) != 0) throw wrong();
                bits |= 1 << (c - 'a');
            }
            i++;
            return bits;
        }
    }

    private static void readBook(Things t, All a) throws Wrong {
        if (t.over()) return;
        int lines = 0;
        do {
            if (++lines > 14) throw t.wrong();
            String word = t.now();
            boolean full = word.equals("step") && a.steps.size() == 8 || word.equals("man") && a.men.size() == 6
                    || word.equals("test") && a.tests.size() == 6 || word.equals("rival") && a.rivals.size() == 6;
            if (full) throw t.wrong();
            if (t.may("step")) {
                int d = t.must("days").number(1, 30);
                int c = t.must("cost").number(0, 99);
                a.steps.add(new int[] {d, c, t.must("shows").number(0, 50)});
            } else if (t.may("man")) {
                One m = new One();
                m.trust = t.must("trust").number(0, 99);
                m.nails = t.must("nails").number(0, 9);
                m.tricks = t.must("tricks").tricks();
                a.men.add(m);
            } else if (t.may("test")) {
                int c = t.must("cost").number(0, 99);
                a.tests.add(new int[] {c, t.must("stops").tricks()});
            } else if (t.may("rival")) {
                a.rivals.add(new int[] {t.number(0, 999), 0});
            } else if (t.may("chest")) {
                a.chest = t.number(0, 999);
            } else if (t.may("bar")) {
                a.bar = t.number(0, 99);
            } else if (t.may("luck")) {
                a.luck = t.number(0, 100);
            } else if (t.may("proof")) {
                a.proof = t.number(0, 50);
            } else {
                throw t.wrong();
            }
        } while (t.may(";"));
        if (!t.over()) throw t.wrong();
    }

    private static List<Line> readLaw(Things t) throws Wrong {
        List<Line> lines = new ArrayList<>();
        if (t.over()) return lines;
        do {
            if (lines.size() == 12) throw t.wrong();
            int sign = t.may("gain") ? 1 : -1;
            if (sign < 0) t.must("doubt");
            Line line = new Line();
            line.by = sign * t.number(0, 30);
            if (t.may("if")) line.when = readOr(t, 0);
            lines.add(line);
        } while (t.may(";"));
        if (!t.over()) throw t.wrong();
        return lines;
    }

    private static When readOr(Things t, int deep) throws Wrong {
        List<When> any = new ArrayList<>();
        do any.add(readAnd(t, deep)); while (t.may("or"));
        return f -> any.stream().anyMatch(w -> w.holds(f));
    }

    private static When readAnd(Things t, int deep) throws Wrong {
        List<When> all = new ArrayList<>();
        do all.add(readAtom(t, deep)); while (t.may("and"));
        return f -> all.stream().allMatch(w -> w.holds(f));
    }

    private static When readAtom(Things t, int deep) throws Wrong {
        if (deep == 6 && (t.now().equals("not") || t.now().equals("("))) throw t.wrong();
        if (t.may("not")) {
            When w = readAtom(t, deep + 1);
            return f -> !w.holds(f);
        }
        if (t.may("(")) {
            When w = readOr(t, deep + 1);
            t.must(")");
            return w;
        }
        if (t.may("hot")) return f -> f.hot;
        if (t.may("done")) return f -> f.done;
        List<String> left = readSum(t);
        boolean less = t.may("<");
        if (!less) t.must(">");
        List<String> right = readSum(t);
        return f -> less ? sum(left, f) < sum(right, f) : sum(left, f) > sum(right, f);
    }

    private static int sum(List<String> parts, Facts f) {
        return parts.stream().mapToInt(p -> p.matches("[0-9]+") ? Integer.parseInt(p) : f.of.get(p)).sum();
    }

    private static List<String> readSum(Things t) throws Wrong {
        List<String> parts = new ArrayList<>();
        do {
            if (!t.now().matches("[0-9]{1,3}|man|trust|nails|at|heated|debts|day")) throw t.wrong();
            parts.add(t.now());
            t.i++;
        } while (t.may("+"));
        return parts;
    }

    // ---- the calls ----

    private All a = new All();
    private All imaged = null;
    private final Deque<All> past = new ArrayDeque<>();
    private String tape = "";
    private int fault = NONE;

    private void act() {
        past.addLast(a.copy());
        if (past.size() > 12) past.removeFirst();
    }

    private One needMan(int i) {
        if (i < 0 || i >= a.men.size()) throw new IndexOutOfBoundsException();
        return a.men.get(i);
    }

    private int[] needOf(List<int[]> list, int i) {
        if (i < 0 || i >= list.size()) throw new IndexOutOfBoundsException();
        return list.get(i);
    }

    private void need(boolean right) {
        if (!right) throw new IllegalArgumentException();
    }

    private void needState(boolean right) {
        if (!right) throw new IllegalStateException();
    }

    public int feed(int p, int q, int r, int s, int t) {
        if (tape.length() + 20 > 400) return NONE;
        for (int n : new int[] {p, q, r, s, t}) {
            for (byte b : java.nio.ByteBuffer.allocate(4).putInt(n).array()) tape += (char) (b & 255);
        }
        return tape.length();
    }

    public boolean end(int n) {
        if (n < 0 || n > tape.length()) return false;
        tape = tape.substring(0, n);
        return true;
    }

    public int book() {
        String text = tape;
        tape = "";
        fault = NONE;
        All next = a.copy();
        try {
            readBook(new Things(text), next);
        } catch (Wrong w) {
            fault = w.at;
            throw new IllegalArgumentException();
        }
        if (a.texts == 12) throw new UnsupportedOperationException();
        a = next;
        past.clear();
        return ++a.texts;
    }

    public int law() {
        String text = tape;
        tape = "";
        fault = NONE;
        try {
            a.law = readLaw(new Things(text));
        } catch (Wrong w) {
            fault = w.at;
            throw new IllegalArgumentException();
        }
        past.clear();
        return a.law.size();
    }

    public int fault() {
        return fault;
    }

    public int step(int step, int what) {
        int[] s = needOf(a.steps, step);
        if (what < 0 || what > 3) throw new NoSuchElementException();
        if (what < 3) return s[what];
        int bits = 0;
        for (int i = 0; i < a.rivals.size(); i++) if ((a.rivals.get(i)[1] & 1 << step) != 0) bits += 1 << i;
        return bits;
    }

    private int fromThere(One m, int what) {
        return a.steps.stream().skip(m.at).mapToInt(s -> s[what]).sum();
    }

    public int man(int man, int what) {
        One m = needMan(man);
        if (what < 0 || what > 9) throw new NoSuchElementException();
        int outlay = fromThere(m, 1) - (m.heated > 0 ? a.steps.get(m.at)[1] : 0);
        return new int[] {m.trust, m.nails, m.tricks, m.at, m.heated, m.state, a.turns(man, m, a.debts), outlay,
            fromThere(m, 0) - m.heated, fromThere(m, 2) - outlay}[what];
    }

    public int test(int test, boolean stops) {
        return needOf(a.tests, test)[stops ? 1 : 0];
    }

    public int rival(int rival, boolean parts) {
        return needOf(a.rivals, rival)[parts ? 1 : 0];
    }

    private void note(int man, int kind) {
        a.log.add(new int[] {a.day, man, kind, a.men.get(man).trust});
        if (a.log.size() > 60) a.log.remove(0);
    }

    public int proof(int man) {
        One m = needMan(man);
        needState(m.state == 0 && m.nails > 0);
        act();
        m.nails--;
        m.trust = Math.min(99, m.trust + a.proof);
        note(man, 0);
        return m.trust;
    }

    private static boolean caught(int stops, int tricks) {
        return (stops & tricks) == tricks;
    }

    public boolean tried(int man, int test) {
        One m = needMan(man);
        int[] t = needOf(a.tests, test);
        needState(m.state == 0);
        act();
        a.spend(t[0]);
        boolean c = caught(t[1], m.tricks);
        m.trust = c ? m.trust / 2 : Math.min(99, m.trust + 5);
        if (m.trust < a.bar) m.state = 1;
        note(man, c ? 2 : 1);
        return c;
    }

    public int flee(int man) {
        One m = needMan(man);
        needState(m.state == 0 && m.heated == 0);
        act();
        m.state = 2;
        return m.trust;
    }

    public int sell(int man, int rival, int price) {
        One m = needMan(man);
        int[] r = needOf(a.rivals, rival);
        need(price >= 0 && price <= r[0]);
        needState(m.state == 0);
        act();
        r[0] -= price;
        a.chest = Math.min(9999, a.chest + price);
        for (int i = 0; i < m.at; i++) r[1] |= 1 << i;
        m.state = 3;
        return a.chest;
    }

    public int part(int step, int rival) {
        needOf(a.steps, step);
        int[] r = needOf(a.rivals, rival);
        needState((r[1] & 1 << step) == 0 && r[0] >= 20);
        act();
        r[0] -= 20;
        r[1] |= 1 << step;
        return r[1];
    }

    public int pay(int n) {
        need(n >= 1 && n <= a.debts && n <= a.chest);
        act();
        a.chest -= n;
        return a.debts -= n;
    }

    public int days(int n) {
        need(n >= 1 && n <= 200);
        act();
        int came = 0;
        for (int i = 0; i < n; i++) came += a.passDay(true);
        return came;
    }

    private void needAhead(int n) {
        need(n >= 0 && n <= 200);
    }

    public int ahead(int man, int n, int what) {
        needMan(man);
        needAhead(n);
        if (what < 0 || what > 3) throw new NoSuchElementException();
        One m = a.after(n, false).men.get(man);
        return new int[] {m.trust, m.at, m.heated, m.state}[what];
    }

    public int owes(int n) {
        needAhead(n);
        return a.after(n, false).debts;
    }

    public int chest(int n) {
        needAhead(n);
        return a.after(n, false).chest;
    }

    public int lives(int man) {
        if (needMan(man).state != 0) return NONE;
        All next = a.copy();
        for (int n = 0; n <= 200; n++, next.passDay(false)) if (next.men.get(man).state == 1) return n;
        return NONE;
    }

    public int done(int man) {
        needMan(man);
        All next = a.copy();
        for (int n = 0; n <= 200; n++, next.passDay(false)) {
            One m = next.men.get(man);
            if (m.state == 0 && m.at == next.steps.size()) return n;
        }
        return NONE;
    }

    /** Forward, day by day: for each nails and trust the first way that leads there; the first of the last day's. */
    private List<Integer> firstWay(All from, int man) {
        Map<List<Integer>, List<Integer>> ways = new java.util.HashMap<>();
        One start = from.men.get(man);
        ways.put(List.of(start.nails, start.trust), List.of());
        All world = from.copy();
        One path = start.copy();
        List<Integer> best = List.of();
        for (int d = 0; d < 30 && !ways.isEmpty(); d++) {
            int gain = 0;
            if (path.at < from.steps.size() && ++path.heated == from.steps.get(path.at)[0]) {
                gain = from.steps.get(path.at)[2];
                path.at++;
                path.heated = 0;
            }
            Map<List<Integer>, List<Integer>> next = new java.util.HashMap<>();
            for (Map.Entry<List<Integer>, List<Integer>> e : ways.entrySet()) {
                for (int used = 0; used <= e.getKey().get(0); used++) {
                    One m = path.copy();
                    m.nails = e.getKey().get(0) - used;
                    m.trust = e.getKey().get(1);
                    for (int i = 0; i < used; i++) m.trust = Math.min(99, m.trust + from.proof);
                    m.trust = Math.min(99, m.trust + gain);
                    m.trust = Math.max(0, Math.min(99, m.trust + world.turns(man, m, world.debts)));
                    if (m.trust < from.bar) continue;
                    List<Integer> way = new ArrayList<>(e.getValue());
                    way.add(used);
                    next.merge(List.of(m.nails, m.trust), way, (p, q) -> before(p, q) ? p : q);
                }
            }
            ways = next;
            for (List<Integer> way : ways.values()) if (way.size() > best.size() || before(way, best)) best = way;
            world.passDay(false);
        }
        return best;
    }

    private static boolean before(List<Integer> p, List<Integer> q) {
        for (int i = 0; i < p.size(); i++) {
            int order = p.get(i).compareTo(q.get(i));
            if (order != 0) return order < 0;
        }
        return false;
    }

    public int longest(int man, int k) {
        One m = needMan(man);
        need(k >= NONE && k < 30);
        if (m.state != 0) return NONE;
        List<Integer> way = firstWay(a, man);
        if (k == NONE) return way.size();
        return k < way.size() ? way.get(k) : 0;
    }

    public int needs(int man, int n) {
        One m = needMan(man);
        need(n >= 1 && n <= 30);
        if (m.state != 0) return NONE;
        for (int nails = 0; nails <= 9; nails++) {
            All next = a.copy();
            next.men.get(man).nails = nails;
            if (firstWay(next, man).size() >= n) return nails;
        }
        return NONE;
    }

    public boolean stopped(int man, int tests) {
        int stops = 0;
        One m = needMan(man);
        for (int i = 0; i < a.tests.size(); i++) if ((tests & 1 << i) != 0) stops |= a.tests.get(i)[1];
        return caught(stops, m.tricks);
    }

    private int leastSet(int man, IntUnaryOperator weight) {
        int best = NONE;
        for (int set = (1 << a.tests.size()) - 1; set >= 0; set--) {
            if (stopped(man, set) && (best < 0 || weight.applyAsInt(set) <= weight.applyAsInt(best))) best = set;
        }
        return best;
    }

    private int costOf(int set) {
        int sum = 0;
        for (int i = 0; i < a.tests.size(); i++) if ((set & 1 << i) != 0) sum += a.tests.get(i)[0];
        return sum;
    }

    public int fewest(int man) {
        needMan(man);
        return leastSet(man, Integer::bitCount);
    }

    public int cheapest(int man, boolean much) {
        needMan(man);
        int set = leastSet(man, this::costOf);
        return much && set >= 0 ? costOf(set) : set;
    }

    public int slips(int man) {
        One m = needMan(man);
        int bits = 0;
        for (int i = 0; i < a.tests.size(); i++) if (!caught(a.tests.get(i)[1], m.tricks)) bits |= 1 << i;
        return bits;
    }

    private List<Integer> fitting() {
        String told = tape;
        tape = "";
        need(told.length() <= 40 && told.length() % 2 == 0);
        for (int i = 0; i < told.length(); i += 2) need(told.charAt(i) < a.tests.size() && told.charAt(i + 1) <= 1);
        List<Integer> sets = new ArrayList<>();
        for (int set = 1; set <= 63; set++) {
            boolean fits = true;
            for (int i = 0; i < told.length(); i += 2) {
                fits &= caught(a.tests.get(told.charAt(i))[1], set) == (told.charAt(i + 1) == 1);
            }
            if (fits) sets.add(set);
        }
        return sets;
    }

    public int seen(boolean sure) {
        List<Integer> sets = fitting();
        if (!sure) return sets.size();
        return sets.stream().reduce((p, q) -> p & q).orElse(0);
    }

    public int ask() {
        List<Integer> sets = fitting();
        if (sets.size() < 2 || a.tests.isEmpty()) return NONE;
        int best = 0;
        long least = 99;
        for (int i = 0; i < a.tests.size(); i++) {
            int stops = a.tests.get(i)[1];
            long yes = sets.stream().filter(s -> caught(stops, s)).count();
            long greater = Math.max(yes, sets.size() - yes);
            if (greater < least) {
                least = greater;
                best = i;
            }
        }
        return best;
    }

    public int rests(int man, int test) {
        One m = needMan(man);
        int[] t = needOf(a.tests, test);
        boolean c = caught(t[1], m.tricks);
        int[][] pays = {{c ? t[0] : t[0] + 50, t[0]}, {50, 0}};
        int[][] has = {{c ? -m.trust : 30, 10}, {30, 10}};
        int bits = 0;
        for (int p = 0; p < 2; p++) {
            for (int q = 0; q < 2; q++) {
                if (pays[1 - p][q] >= pays[p][q] && has[p][1 - q] <= has[p][q]) bits |= 1 << (2 * p + q);
            }
        }
        return bits;
    }

    public int odds(int n, int k) {
        need(n >= 0 && n <= 5 && k >= 0 && k <= 5);
        java.math.BigInteger[] exactly = new java.math.BigInteger[7];
        Arrays.fill(exactly, java.math.BigInteger.ZERO);
        exactly[0] = java.math.BigInteger.ONE;
        for (int i = 0; i < n; i++) {
            for (int j = 6; j >= 0; j--) {
                java.math.BigInteger miss = exactly[j].multiply(java.math.BigInteger.valueOf(100 - a.luck));
                java.math.BigInteger hit = j == 0 ? java.math.BigInteger.ZERO
                        : exactly[j - 1].multiply(java.math.BigInteger.valueOf(a.luck));
                exactly[j] = miss.add(hit);
            }
        }
        java.math.BigInteger sum = java.math.BigInteger.ZERO;
        for (int j = k; j <= 6; j++) sum = sum.add(exactly[j]);
        return sum.multiply(java.math.BigInteger.valueOf(10000)).divide(java.math.BigInteger.valueOf(100).pow(n)).intValue();
    }

    public int bids(boolean price) {
        List<Integer> order = new ArrayList<>();
        for (int i = 0; i < a.rivals.size(); i++) order.add(i);
        order.sort((p, q) -> a.rivals.get(q)[0] - a.rivals.get(p)[0]);
        if (price) return order.size() < 2 ? 0 : a.rivals.get(order.get(1))[0];
        return order.isEmpty() ? NONE : order.get(0);
    }

    private int mostSum;
    private int[] mostWay;

    private void sellFrom(int rival, int gone, int sum, int[] way) {
        if (rival == a.rivals.size()) {
            if (sum > mostSum) {
                mostSum = sum;
                mostWay = way.clone();
            }
            return;
        }
        way[rival] = NONE;
        sellFrom(rival + 1, gone, sum, way);
        for (int i = 0; i < a.men.size(); i++) {
            One m = a.men.get(i);
            if (m.state == 0 && (gone & 1 << i) == 0) {
                way[rival] = i;
                sellFrom(rival + 1, gone | 1 << i, sum + Math.min(a.rivals.get(rival)[0], 3 * m.trust), way);
            }
        }
    }

    public int sold(int k) {
        if (k != NONE) needOf(a.rivals, k);
        mostSum = -1;
        sellFrom(0, 0, 0, new int[a.rivals.size()]);
        return k == NONE ? mostSum : mostWay[k];
    }

    public int secret() {
        int best = NONE;
        for (int set = (1 << a.rivals.size()) - 1; set >= 0; set--) {
            int parts = 0;
            for (int i = 0; i < a.rivals.size(); i++) if ((set & 1 << i) != 0) parts |= a.rivals.get(i)[1];
            boolean all = parts == (1 << a.steps.size()) - 1;
            if (all && (best < 0 || Integer.bitCount(set) <= Integer.bitCount(best))) best = set;
        }
        return best;
    }

    public int mates() {
        int twice = 0;
        for (One m : a.men) for (One o : a.men) if (m != o && m.tricks == o.tricks) twice++;
        return twice / 2;
    }

    public int knows(int trick) {
        need(trick >= 0 && trick <= 5);
        int bits = 0;
        for (int i = 0; i < a.men.size(); i++) if ((a.men.get(i).tricks & 1 << trick) != 0) bits |= 1 << i;
        return bits;
    }

    public int dearest() {
        List<Integer> costs = new ArrayList<>();
        for (int[] s : a.steps) costs.add(s[1]);
        return costs.isEmpty() ? NONE : costs.indexOf(Collections.max(costs));
    }

    private static int inState(All all, int state) {
        int bits = 0;
        for (int i = 0; i < all.men.size(); i++) if (all.men.get(i).state == state) bits |= 1 << i;
        return bits;
    }

    public int kept(boolean tower) {
        return inState(a, tower ? 1 : 0);
    }

    public int trial(int n, boolean men) {
        needAhead(n);
        All next = a.after(n, true);
        return men ? Integer.bitCount(inState(next, 0)) : next.chest;
    }

    public int span(int n, boolean most) {
        needAhead(n);
        List<Integer> chests = new ArrayList<>();
        for (int s = 1; s <= 6; s++) {
            All next = a.copy();
            next.seed = s;
            chests.add(next.after(n, true).chest);
        }
        return most ? Collections.max(chests) : Collections.min(chests);
    }

    public int led(int man, boolean caught) {
        needMan(man);
        return (int) a.log.stream().filter(l -> l[1] == man && (!caught || l[2] == 2)).count();
    }

    public int log(int ago, int what) {
        if (what < 0 || what > 3) throw new NoSuchElementException();
        return ago < 0 || ago >= a.log.size() ? NONE : a.log.get(a.log.size() - 1 - ago)[what];
    }

    public int seed(int n) {
        int was = a.seed;
        a.seed = n;
        return was;
    }

    public boolean undo() {
        if (past.isEmpty()) return false;
        a = past.removeLast();
        return true;
    }

    public void image() {
        imaged = a.copy();
    }

    public boolean back() {
        if (imaged == null) return false;
        a = imaged.copy();
        past.clear();
        return true;
    }

    public int count(int what) {
        if (what < 0 || what > 14) return NONE;
        int trust = a.men.stream().filter(m -> m.state == 0).mapToInt(m -> m.trust).sum();
        return new int[] {a.steps.size(), a.men.size(), a.tests.size(), a.rivals.size(), a.texts,
            a.law == null ? NONE : a.law.size(), a.day, a.chest, a.debts, a.bar, a.luck, a.proof, trust, a.log.size(),
            past.size()}[what];
    }
}
