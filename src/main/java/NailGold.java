import java.util.Arrays;
import java.util.NoSuchElementException;

/** Men whom a prince keeps till they make gold. */
public final class NailGold {
    public static final int NONE = -1;

    private static final int KEPT = 0;
    private static final int TOWER = 1;
    private static final int FLED = 2;
    private static final int SOLD = 3;

    private static final int MOST_STEPS = 8;
    private static final int MOST_MEN = 6;
    private static final int MOST_TESTS = 6;
    private static final int MOST_RIVALS = 6;
    private static final int MOST_TEXTS = 12;
    private static final int MOST_TRUST = 99;
    private static final int MOST_MONEY = 9999;
    private static final int MOST_DAY = 9999;
    private static final int MOST_AHEAD = 200;
    private static final int MOST_TOLD = 40;
    private static final int MOST_UNDONE = 12;
    private static final int TRICKS = 6;
    private static final int PART_PRICE = 20;
    private static final int SPAN_SEEDS = 6;
    private static final int MOST_ODDS = 5;

    private final Tape tape = new Tape();
    private final Judge judge = new Judge();
    private final BookReader bookReader = new BookReader(tape);
    private final LawReader lawReader = new LawReader(tape);
    private final Book book = new Book();
    private final Court court = new Court();
    private final NailPlan plan = new NailPlan(judge, book);
    private final Market market = new Market(court);
    private final Book draftBook = new Book();
    private final Court draft = new Court();
    private final Book imageBook = new Book();
    private final Court imageCourt = new Court();
    private final Court[] past = new Court[MOST_UNDONE];
    private int newest;
    private int remembered;
    private boolean imageKept;
    private int wrongByte = NONE;

    public NailGold() {
        for (int i = 0; i < MOST_UNDONE; i++) {
            past[i] = new Court();
        }
    }

    // ---- texts ----

    public int feed(int a, int b, int c, int d, int e) {
        if (tape.length + 20 > Tape.SIZE) {
            return NONE;
        }
        tape.put(a);
        tape.put(b);
        tape.put(c);
        tape.put(d);
        tape.put(e);
        return tape.length;
    }

    public boolean end(int n) {
        if (n < 0 || n > tape.length) {
            return false;
        }
        tape.length = n;
        return true;
    }

    public int book() throws IllegalArgumentException, UnsupportedOperationException {
        draftBook.copyFrom(book);
        draft.copyCourse(court);
        boolean right = bookReader.reads(draftBook, draft);
        wrongByte = right ? NONE : tape.from;
        tape.length = 0;
        if (!right) {
            throw new IllegalArgumentException("the text is wrong");
        }
        if (book.texts >= MOST_TEXTS) {
            throw new UnsupportedOperationException("there are 12 texts");
        }
        book.copyFrom(draftBook);
        book.texts++;
        court.copyCourse(draft);
        remembered = 0;
        return book.texts;
    }

    public int law() throws IllegalArgumentException {
        Law law = lawReader.readLaw();
        wrongByte = law != null ? NONE : tape.from;
        tape.length = 0;
        if (law == null) {
            throw new IllegalArgumentException("the text is wrong");
        }
        book.law = law;
        remembered = 0;
        return law.lines;
    }

    public int fault() {
        return wrongByte;
    }

    // ---- what is there ----

    public int step(int step, int what) throws IndexOutOfBoundsException, NoSuchElementException {
        needStep(step);
        switch (what) {
            case 0:
                return book.stepDays[step];
            case 1:
                return book.stepCost[step];
            case 2:
                return book.stepShows[step];
            case 3:
                return court.holdersOf(step);
            default:
                throw new NoSuchElementException("no such what");
        }
    }

    public int man(int man, int what) throws IndexOutOfBoundsException, NoSuchElementException {
        needMan(man);
        Man one = court.man[man];
        switch (what) {
            case 0:
                return one.trust;
            case 1:
                return one.nails;
            case 2:
                return one.tricks;
            case 3:
                return one.at;
            case 4:
                return one.heated;
            case 5:
                return one.state;
            case 6:
                return judge.turnOf(man, book, court);
            case 7:
                return book.outlayOf(one);
            case 8:
                return book.daysLeftOf(one);
            case 9:
                return book.showsLeftOf(one) - book.outlayOf(one);
            default:
                throw new NoSuchElementException("no such what");
        }
    }

    public int test(int test, boolean stops) throws IndexOutOfBoundsException {
        needTest(test);
        return stops ? book.testStops[test] : book.testCost[test];
    }

    public int rival(int rival, boolean parts) throws IndexOutOfBoundsException {
        needRival(rival);
        return parts ? court.parts[rival] : court.purse[rival];
    }

    // ---- acts ----

    public int proof(int man) throws IndexOutOfBoundsException, IllegalStateException {
        needMan(man);
        needKept(man);
        Man one = court.man[man];
        if (one.nails < 1) {
            throw new IllegalStateException("he has no nail");
        }
        remember();
        one.nails--;
        one.trustMore(book.proofGain);
        court.log.add(court.day, man, Log.PROOF, one.trust);
        return one.trust;
    }

    public boolean tried(int man, int test) throws IndexOutOfBoundsException, IllegalStateException {
        needMan(man);
        needTest(test);
        needKept(man);
        remember();
        court.spend(book.testCost[test]);
        Man one = court.man[man];
        boolean caught = book.catches(test, one.tricks);
        if (caught) {
            one.trust = one.trust / 2;
        } else {
            one.trustMore(5);
        }
        if (one.trust < book.bar) {
            one.state = TOWER;
        }
        court.log.add(court.day, man, caught ? Log.CAUGHT : Log.TESTED, one.trust);
        return caught;
    }

    public int flee(int man) throws IndexOutOfBoundsException, IllegalStateException {
        needMan(man);
        needKept(man);
        Man one = court.man[man];
        if (one.heated > 0) {
            throw new IllegalStateException("he heats a step");
        }
        remember();
        one.state = FLED;
        return one.trust;
    }

    public int sell(int man, int rival, int price)
            throws IndexOutOfBoundsException, IllegalArgumentException, IllegalStateException {
        needMan(man);
        needRival(rival);
        needWithin(price, 0, court.purse[rival]);
        needKept(man);
        remember();
        Man one = court.man[man];
        court.purse[rival] -= price;
        court.chest = Math.min(MOST_MONEY, court.chest + price);
        court.parts[rival] |= (1 << one.at) - 1;
        one.state = SOLD;
        return court.chest;
    }

    public int part(int step, int rival) throws IndexOutOfBoundsException, IllegalStateException {
        needStep(step);
        needRival(rival);
        if ((court.parts[rival] >> step & 1) != 0 || court.purse[rival] < PART_PRICE) {
            throw new IllegalStateException("it has that part, or too little");
        }
        remember();
        court.purse[rival] -= PART_PRICE;
        court.parts[rival] |= 1 << step;
        return court.parts[rival];
    }

    public int pay(int n) throws IllegalArgumentException {
        needWithin(n, 1, Math.min(court.debts, court.chest));
        remember();
        court.debts -= n;
        court.chest -= n;
        return court.debts;
    }

    public int days(int n) throws IllegalArgumentException {
        needWithin(n, 1, MOST_AHEAD);
        remember();
        int came = 0;
        for (int i = 0; i < n; i++) {
            came += court.passDay(book, judge, book.luck);
        }
        return came;
    }

    // ---- what is ahead ----

    public int ahead(int man, int n, int what)
            throws IndexOutOfBoundsException, IllegalArgumentException, NoSuchElementException {
        needMan(man);
        needWithin(n, 0, MOST_AHEAD);
        if (what < 0 || what > 3) {
            throw new NoSuchElementException("no such what");
        }
        draftDays(n, 0, court.seed);
        Man one = draft.man[man];
        switch (what) {
            case 0:
                return one.trust;
            case 1:
                return one.at;
            case 2:
                return one.heated;
            default:
                return one.state;
        }
    }

    public int owes(int n) throws IllegalArgumentException {
        needWithin(n, 0, MOST_AHEAD);
        draftDays(n, 0, court.seed);
        return draft.debts;
    }

    public int chest(int n) throws IllegalArgumentException {
        needWithin(n, 0, MOST_AHEAD);
        draftDays(n, 0, court.seed);
        return draft.chest;
    }

    public int lives(int man) throws IndexOutOfBoundsException {
        needMan(man);
        draft.copyCourse(court);
        Man one = draft.man[man];
        for (int n = 1; n <= MOST_AHEAD && one.state == KEPT; n++) {
            draft.passDay(book, judge, 0);
            if (one.state == TOWER) {
                return n;
            }
        }
        return NONE;
    }

    public int done(int man) throws IndexOutOfBoundsException {
        needMan(man);
        draft.copyCourse(court);
        Man one = draft.man[man];
        for (int n = 0; n <= MOST_AHEAD && one.state == KEPT; n++) {
            if (one.at >= book.steps) {
                return n;
            }
            draft.passDay(book, judge, 0);
        }
        return NONE;
    }

    public int longest(int man, int k) throws IndexOutOfBoundsException, IllegalArgumentException {
        needMan(man);
        needWithin(k, NONE, NailPlan.DAYS - 1);
        Man one = court.man[man];
        if (one.state != KEPT) {
            return NONE;
        }
        draft.copyCourse(court);
        plan.lookAt(man, draft, NailPlan.DAYS);
        return k == NONE ? plan.mostKept(one.nails, one.trust) : plan.usedAheadOf(k, one.nails, one.trust);
    }

    public int needs(int man, int n) throws IndexOutOfBoundsException, IllegalArgumentException {
        needMan(man);
        needWithin(n, 1, NailPlan.DAYS);
        Man one = court.man[man];
        if (one.state != KEPT) {
            return NONE;
        }
        for (int nails = 0; nails < NailPlan.NAILS; nails++) {
            draft.copyCourse(court);
            draft.man[man].nails = nails;
            plan.lookAt(man, draft, n);
            if (plan.mostKept(nails, one.trust) >= n) {
                return nails;
            }
        }
        return NONE;
    }

    // ---- tests and tricks ----

    public boolean stopped(int man, int tests) throws IndexOutOfBoundsException {
        needMan(man);
        return book.stopsAll(tests, court.man[man].tricks);
    }

    public int fewest(int man) throws IndexOutOfBoundsException {
        needMan(man);
        int best = NONE;
        for (int set = 0; set < 1 << book.tests; set++) {
            if (book.stopsAll(set, court.man[man].tricks)
                    && (best == NONE || Integer.bitCount(set) < Integer.bitCount(best))) {
                best = set;
            }
        }
        return best;
    }

    public int cheapest(int man, boolean much) throws IndexOutOfBoundsException {
        needMan(man);
        int best = NONE;
        int least = NONE;
        for (int set = 0; set < 1 << book.tests; set++) {
            if (book.stopsAll(set, court.man[man].tricks)) {
                int cost = book.costOfTests(set);
                if (best == NONE || cost < least) {
                    best = set;
                    least = cost;
                }
            }
        }
        return much ? least : best;
    }

    public int slips(int man) throws IndexOutOfBoundsException {
        needMan(man);
        int bits = 0;
        for (int i = 0; i < book.tests; i++) {
            if (!book.catches(i, court.man[man].tricks)) {
                bits |= 1 << i;
            }
        }
        return bits;
    }

    public int seen(boolean sure) throws IllegalArgumentException {
        long sets = takeFittingSets();
        if (!sure) {
            return Long.bitCount(sets);
        }
        if (sets == 0) {
            return 0;
        }
        int common = (1 << TRICKS) - 1;
        for (int set = 1; set < 1 << TRICKS; set++) {
            if ((sets >> set & 1) != 0) {
                common &= set;
            }
        }
        return common;
    }

    public int ask() throws IllegalArgumentException {
        long sets = takeFittingSets();
        int all = Long.bitCount(sets);
        int best = NONE;
        int least = NONE;
        for (int i = 0; i < book.tests && all >= 2; i++) {
            int caught = caughtAmong(sets, i);
            int greater = Math.max(caught, all - caught);
            if (best == NONE || greater < least) {
                best = i;
                least = greater;
            }
        }
        return best;
    }

    public int rests(int man, int test) throws IndexOutOfBoundsException {
        needMan(man);
        needTest(test);
        Man one = court.man[man];
        boolean caught = book.catches(test, one.tricks);
        int bits = 0;
        for (int choice = 0; choice < 4; choice++) {
            int prince = choice >> 1;
            int his = choice & 1;
            boolean princeRests = princePays(prince, his, test, caught) <= princePays(1 - prince, his, test, caught);
            boolean manRests = manHas(prince, his, one.trust, caught) >= manHas(prince, 1 - his, one.trust, caught);
            if (princeRests && manRests) {
                bits |= 1 << choice;
            }
        }
        return bits;
    }

    // ---- luck, rivals and sums ----

    public int odds(int n, int k) throws IllegalArgumentException {
        needWithin(n, 0, MOST_ODDS);
        needWithin(k, 0, MOST_ODDS);
        long ways = 0;
        long all = 1;
        for (int i = 0; i < n; i++) {
            all *= 100;
        }
        for (int hits = k; hits <= n; hits++) {
            ways += waysOf(n, hits);
        }
        return (int) (ways * 10000 / all);
    }

    public int bids(boolean price) {
        int best = NONE;
        int second = 0;
        for (int i = 0; i < court.rivals; i++) {
            int bid = court.purse[i];
            if (best == NONE) {
                best = i;
            } else if (bid > court.purse[best]) {
                second = court.purse[best];
                best = i;
            } else {
                second = Math.max(second, bid);
            }
        }
        return price ? second : best;
    }

    public int sold(int k) throws IndexOutOfBoundsException {
        if (k != NONE) {
            needRival(k);
        }
        market.weigh();
        return k == NONE ? market.most() : market.gets(k);
    }

    public int secret() {
        int all = (1 << book.steps) - 1;
        int best = NONE;
        for (int set = 0; set < 1 << court.rivals; set++) {
            if (court.partsOf(set) == all && (best == NONE || Integer.bitCount(set) < Integer.bitCount(best))) {
                best = set;
            }
        }
        return best;
    }

    public int mates() {
        int pairs = 0;
        for (int i = 0; i < court.men; i++) {
            for (int j = i + 1; j < court.men; j++) {
                if (court.man[i].tricks == court.man[j].tricks) {
                    pairs++;
                }
            }
        }
        return pairs;
    }

    public int knows(int trick) throws IllegalArgumentException {
        needWithin(trick, 0, TRICKS - 1);
        int bits = 0;
        for (int i = 0; i < court.men; i++) {
            bits |= (court.man[i].tricks >> trick & 1) << i;
        }
        return bits;
    }

    public int dearest() {
        int best = NONE;
        for (int i = 0; i < book.steps; i++) {
            if (best == NONE || book.stepCost[i] > book.stepCost[best]) {
                best = i;
            }
        }
        return best;
    }

    public int kept(boolean tower) {
        return court.menIn(tower ? TOWER : KEPT);
    }

    public int trial(int n, boolean men) throws IllegalArgumentException {
        needWithin(n, 0, MOST_AHEAD);
        draftDays(n, book.luck, court.seed);
        return men ? Integer.bitCount(draft.menIn(KEPT)) : draft.chest;
    }

    public int span(int n, boolean most) throws IllegalArgumentException {
        needWithin(n, 0, MOST_AHEAD);
        int best = NONE;
        for (int from = 1; from <= SPAN_SEEDS; from++) {
            draftDays(n, book.luck, from);
            if (best == NONE) {
                best = draft.chest;
            }
            best = most ? Math.max(best, draft.chest) : Math.min(best, draft.chest);
        }
        return best;
    }

    // ---- the log, what is undone, the image ----

    public int led(int man, boolean caught) throws IndexOutOfBoundsException {
        needMan(man);
        return court.log.rowsOf(man, caught);
    }

    public int log(int ago, int what) throws NoSuchElementException {
        if (what < 0 || what >= Log.WIDTH) {
            throw new NoSuchElementException("no such what");
        }
        return court.log.cell(ago, what);
    }

    public int seed(int n) {
        int was = court.seed;
        court.seed = n;
        return was;
    }

    public boolean undo() {
        if (remembered < 1) {
            return false;
        }
        court.copyFrom(past[newest]);
        newest = (newest + MOST_UNDONE - 1) % MOST_UNDONE;
        remembered--;
        return true;
    }

    public void image() {
        imageBook.copyFrom(book);
        imageCourt.copyFrom(court);
        imageKept = true;
    }

    public boolean back() {
        if (!imageKept) {
            return false;
        }
        book.copyFrom(imageBook);
        court.copyFrom(imageCourt);
        remembered = 0;
        return true;
    }

    public int count(int what) {
        switch (what) {
            case 0:
                return book.steps;
            case 1:
                return court.men;
            case 2:
                return book.tests;
            case 3:
                return court.rivals;
            case 4:
                return book.texts;
            case 5:
                return book.law == null ? NONE : book.law.lines;
            case 6:
                return court.day;
            case 7:
                return court.chest;
            case 8:
                return court.debts;
            case 9:
                return book.bar;
            case 10:
                return book.luck;
            case 11:
                return book.proofGain;
            case 12:
                return court.trustOfKept();
            case 13:
                return court.log.rows;
            case 14:
                return remembered;
            default:
                return NONE;
        }
    }

    // ---- what the calls share ----

    private void needStep(int step) {
        if (step < 0 || step >= book.steps) {
            throw new IndexOutOfBoundsException("no such step");
        }
    }

    private void needMan(int man) {
        if (man < 0 || man >= court.men) {
            throw new IndexOutOfBoundsException("no such man");
        }
    }

    private void needTest(int test) {
        if (test < 0 || test >= book.tests) {
            throw new IndexOutOfBoundsException("no such test");
        }
    }

    private void needRival(int rival) {
        if (rival < 0 || rival >= court.rivals) {
            throw new IndexOutOfBoundsException("no such rival");
        }
    }

    private void needWithin(int n, int least, int most) {
        if (n < least || n > most) {
            throw new IllegalArgumentException("the number is none");
        }
    }

    private void needKept(int man) {
        if (court.man[man].state != KEPT) {
            throw new IllegalStateException("he is not kept");
        }
    }

    private void remember() {
        newest = (newest + 1) % MOST_UNDONE;
        past[newest].copyFrom(court);
        remembered = Math.min(MOST_UNDONE, remembered + 1);
    }

    private void draftDays(int n, int luck, int fromSeed) {
        draft.copyCourse(court);
        draft.seed = fromSeed;
        for (int i = 0; i < n; i++) {
            draft.passDay(book, judge, luck);
        }
    }

    // A set of tricks is a number of 1 to 63, so all sets that fit are the bits of one long.
    private long takeFittingSets() {
        int told = tape.length;
        tape.length = 0;
        if (!isTale(told)) {
            throw new IllegalArgumentException("the tape is not that");
        }
        long sets = 0;
        for (int set = 1; set < 1 << TRICKS; set++) {
            if (fitsTale(set, told)) {
                sets |= 1L << set;
            }
        }
        return sets;
    }

    private boolean isTale(int told) {
        if (told > MOST_TOLD || told % 2 != 0) {
            return false;
        }
        for (int i = 0; i + 1 < told; i += 2) {
            if (tape.bytes[i] >= book.tests || tape.bytes[i + 1] > 1) {
                return false;
            }
        }
        return true;
    }

    private boolean fitsTale(int set, int told) {
        for (int i = 0; i + 1 < told; i += 2) {
            if (book.catches(tape.bytes[i], set) != (tape.bytes[i + 1] == 1)) {
                return false;
            }
        }
        return true;
    }

    private int caughtAmong(long sets, int test) {
        int caught = 0;
        for (int set = 1; set < 1 << TRICKS; set++) {
            if ((sets >> set & 1) != 0 && book.catches(test, set)) {
                caught++;
            }
        }
        return caught;
    }

    private int princePays(int prince, int his, int test, boolean caught) {
        int cost = prince == 0 ? book.testCost[test] : 0;
        boolean cheated = his == 0 && (prince == 1 || !caught);
        return cheated ? cost + 50 : cost;
    }

    private static int manHas(int prince, int his, int trust, boolean caught) {
        if (his == 1) {
            return 10;
        }
        return prince == 0 && caught ? -trust : 30;
    }

    private long waysOf(int n, int hits) {
        long ways = 1;
        for (int i = 0; i < hits; i++) {
            ways = ways * (n - i) / (i + 1);
        }
        for (int i = 0; i < n; i++) {
            ways *= i < hits ? book.luck : 100 - book.luck;
        }
        return ways;
    }

    /** The bytes that were fed, and the thing among them (a word, a number, a sign) that is looked at. */
    private static final class Tape {
        static final int SIZE = 400;
        static final int END = 0;
        static final int WORD = 1;
        static final int NUMBER = 2;
        static final int SIGN = 3;

        final int[] bytes = new int[SIZE];
        int length;
        int kind;
        int from;
        int to;

        void put(int four) {
            for (int shift = 24; shift >= 0 && length < SIZE; shift -= 8) {
                bytes[length] = four >> shift & 255;
                length++;
            }
        }

        void rewind() {
            to = 0;
            advance();
        }

        void advance() {
            from = to;
            while (from < length && bytes[from] == ' ') {
                from++;
            }
            to = from;
            if (from >= length) {
                kind = END;
                return;
            }
            int first = bytes[from];
            boolean isLetter = first >= 'a' && first <= 'z';
            boolean isDigit = first >= '0' && first <= '9';
            kind = isLetter ? WORD : isDigit ? NUMBER : SIGN;
            to++;
            int least = isLetter ? 'a' : '0';
            int most = isLetter ? 'z' : '9';
            while (kind != SIGN && to < length && bytes[to] >= least && bytes[to] <= most) {
                to++;
            }
        }

        boolean atEnd() {
            return kind == END;
        }

        boolean isWord(String word) {
            if (kind != WORD || to - from != word.length()) {
                return false;
            }
            for (int i = 0; i < word.length(); i++) {
                if (bytes[from + i] != word.charAt(i)) {
                    return false;
                }
            }
            return true;
        }

        boolean isSign(char sign) {
            return kind == SIGN && bytes[from] == sign;
        }

        boolean takeWord(String word) {
            boolean is = isWord(word);
            if (is) {
                advance();
            }
            return is;
        }

        boolean takeSign(char sign) {
            boolean is = isSign(sign);
            if (is) {
                advance();
            }
            return is;
        }

        int takeNumber(int least, int most) {
            if (kind != NUMBER || to - from > 3) {
                return NONE;
            }
            int value = 0;
            for (int i = from; i < to; i++) {
                value = value * 10 + bytes[i] - '0';
            }
            if (value < least || value > most) {
                return NONE;
            }
            advance();
            return value;
        }

        int takeTricks() {
            if (kind != WORD) {
                return NONE;
            }
            int bits = 0;
            for (int i = from; i < to; i++) {
                int trick = bytes[i] - 'a';
                if (trick >= TRICKS || (bits >> trick & 1) != 0) {
                    return NONE;
                }
                bits |= 1 << trick;
            }
            advance();
            return bits;
        }
    }

    /** Reads a text of the book; where it stops short, the tape's thing is the first that cannot stand there. */
    private static final class BookReader {
        static final int MOST_LINES = 14;

        final Tape tape;

        BookReader(Tape tape) {
            this.tape = tape;
        }

        boolean reads(Book book, Court court) {
            tape.rewind();
            if (tape.atEnd()) {
                return true;
            }
            for (int line = 0; line < MOST_LINES; line++) {
                if (!readsLine(book, court)) {
                    return false;
                }
                if (tape.atEnd()) {
                    return true;
                }
                if (!tape.takeSign(';')) {
                    return false;
                }
            }
            return false;
        }

        private boolean readsLine(Book book, Court court) {
            if (tape.isWord("step")) {
                return book.steps < MOST_STEPS && readsStep(book);
            }
            if (tape.isWord("man")) {
                return court.men < MOST_MEN && readsMan(court);
            }
            if (tape.isWord("test")) {
                return book.tests < MOST_TESTS && readsTest(book);
            }
            if (tape.isWord("rival")) {
                return court.rivals < MOST_RIVALS && readsRival(court);
            }
            if (tape.isWord("chest")) {
                return readsChest(court);
            }
            return readsRule(book);
        }

        private int numberBehind(String word, int least, int most) {
            return tape.takeWord(word) ? tape.takeNumber(least, most) : NONE;
        }

        private int tricksBehind(String word) {
            return tape.takeWord(word) ? tape.takeTricks() : NONE;
        }

        private boolean readsStep(Book book) {
            tape.advance();
            int days = numberBehind("days", 1, 30);
            int cost = days == NONE ? NONE : numberBehind("cost", 0, 99);
            int shows = cost == NONE ? NONE : numberBehind("shows", 0, 50);
            if (shows == NONE) {
                return false;
            }
            book.addStep(days, cost, shows);
            return true;
        }

        private boolean readsMan(Court court) {
            tape.advance();
            int trust = numberBehind("trust", 0, MOST_TRUST);
            int nails = trust == NONE ? NONE : numberBehind("nails", 0, 9);
            int tricks = nails == NONE ? NONE : tricksBehind("tricks");
            if (tricks == NONE) {
                return false;
            }
            court.addMan(trust, nails, tricks);
            return true;
        }

        private boolean readsTest(Book book) {
            tape.advance();
            int cost = numberBehind("cost", 0, 99);
            int stops = cost == NONE ? NONE : tricksBehind("stops");
            if (stops == NONE) {
                return false;
            }
            book.addTest(cost, stops);
            return true;
        }

        private boolean readsRival(Court court) {
            int purse = numberBehind("rival", 0, 999);
            if (purse == NONE) {
                return false;
            }
            court.addRival(purse);
            return true;
        }

        // The draft of a wrong text is thrown away, so that a NONE in it does no harm.
        private boolean readsChest(Court court) {
            court.chest = numberBehind("chest", 0, 999);
            return court.chest != NONE;
        }

        private boolean readsRule(Book book) {
            if (tape.isWord("bar")) {
                book.bar = numberBehind("bar", 0, 99);
                return book.bar != NONE;
            }
            if (tape.isWord("luck")) {
                book.luck = numberBehind("luck", 0, 100);
                return book.luck != NONE;
            }
            if (tape.isWord("proof")) {
                book.proofGain = numberBehind("proof", 0, 50);
                return book.proofGain != NONE;
            }
            return false;
        }
    }

    /** The law as code for the judge's stack; it never changes, so that the image may share it. */
    private static final class Law {
        final int lines;
        final int[] code;

        Law(int lines, int[] code) {
            this.lines = lines;
            this.code = code;
        }
    }

    /** Reads the law; where it stops short, the tape's thing is the first that cannot stand there. */
    private static final class LawReader {
        static final int MOST_LINES = 12;
        static final int MOST_DEEP = 6;
        static final int MOST_GAIN = 30;

        final Tape tape;
        // Each code comes of a byte of its own at least.
        final int[] code = new int[Tape.SIZE];
        int size;

        LawReader(Tape tape) {
            this.tape = tape;
        }

        Law readLaw() {
            size = 0;
            tape.rewind();
            if (tape.atEnd()) {
                return new Law(0, Arrays.copyOf(code, 0));
            }
            for (int line = 1; line <= MOST_LINES; line++) {
                if (!readsLine()) {
                    return null;
                }
                if (tape.atEnd()) {
                    return new Law(line, Arrays.copyOf(code, size));
                }
                if (!tape.takeSign(';')) {
                    return null;
                }
            }
            return null;
        }

        private boolean emit(int value) {
            if (size >= code.length) {
                return false;
            }
            code[size] = value;
            size++;
            return true;
        }

        private boolean readsLine() {
            boolean gains = tape.isWord("gain");
            if (!gains && !tape.isWord("doubt")) {
                return false;
            }
            tape.advance();
            int by = tape.takeNumber(0, MOST_GAIN);
            if (by == NONE) {
                return false;
            }
            boolean right = tape.takeWord("if") ? readsChoice(0) : emit(1);
            return right && emit((gains ? Judge.GAIN : Judge.DOUBT) + by);
        }

        private boolean readsChoice(int deep) {
            boolean right = readsAll(deep);
            for (int i = 0; i < Tape.SIZE && right && tape.takeWord("or"); i++) {
                right = readsAll(deep) && emit(Judge.OR);
            }
            return right;
        }

        private boolean readsAll(int deep) {
            boolean right = readsAtom(deep);
            for (int i = 0; i < Tape.SIZE && right && tape.takeWord("and"); i++) {
                right = readsAtom(deep) && emit(Judge.AND);
            }
            return right;
        }

        private boolean readsAtom(int deep) {
            boolean denies = tape.isWord("not");
            if (denies || tape.isSign('(')) {
                if (deep >= MOST_DEEP) {
                    return false;
                }
                tape.advance();
                return denies ? readsAtom(deep + 1) && emit(Judge.NOT) : readsChoice(deep + 1) && tape.takeSign(')');
            }
            if (tape.takeWord("hot")) {
                return emit(Judge.FACT + Judge.HOT);
            }
            if (tape.takeWord("done")) {
                return emit(Judge.FACT + Judge.DONE);
            }
            if (!readsSum()) {
                return false;
            }
            boolean less = tape.takeSign('<');
            return (less || tape.takeSign('>')) && readsSum() && emit(less ? Judge.LESS : Judge.MORE);
        }

        private boolean readsSum() {
            boolean right = readsPart();
            for (int i = 0; i < Tape.SIZE && right && tape.takeSign('+'); i++) {
                right = readsPart() && emit(Judge.ADD);
            }
            return right;
        }

        private boolean readsPart() {
            int number = tape.takeNumber(0, 999);
            if (number != NONE) {
                return emit(number);
            }
            int fact = namedFact();
            if (fact == NONE) {
                return false;
            }
            tape.advance();
            return emit(Judge.FACT + fact);
        }

        private int namedFact() {
            if (tape.isWord("man")) {
                return Judge.MAN;
            }
            if (tape.isWord("trust")) {
                return Judge.TRUST;
            }
            if (tape.isWord("nails")) {
                return Judge.NAILS;
            }
            if (tape.isWord("at")) {
                return Judge.AT;
            }
            if (tape.isWord("heated")) {
                return Judge.HEATED;
            }
            if (tape.isWord("debts")) {
                return Judge.DEBTS;
            }
            return tape.isWord("day") ? Judge.DAY : NONE;
        }
    }

    /** Says by what trust turns: works a law's code off on a stack, by facts of a man. */
    private static final class Judge {
        static final int MAN = 0;
        static final int TRUST = 1;
        static final int NAILS = 2;
        static final int AT = 3;
        static final int HEATED = 4;
        static final int DEBTS = 5;
        static final int DAY = 6;
        static final int HOT = 7;
        static final int DONE = 8;
        static final int FACTS = 9;

        // A code below 1000 is a number itself.
        static final int FACT = 1000;
        static final int ADD = 2000;
        static final int LESS = 2001;
        static final int MORE = 2002;
        static final int NOT = 2003;
        static final int AND = 2004;
        static final int OR = 2005;
        static final int GAIN = 3000;
        static final int DOUBT = 4000;

        final int[] facts = new int[FACTS];
        // Seven levels with two waiting values each, and a comparison's three, are the most.
        final int[] stack = new int[32];
        int height;

        int turnOf(int number, Book book, Court court) {
            see(number, court.man[number], book.steps);
            seeTime(court.debts, court.day);
            return turn(book.law);
        }

        void see(int number, Man man, int steps) {
            facts[MAN] = number;
            facts[TRUST] = man.trust;
            facts[NAILS] = man.nails;
            facts[AT] = man.at;
            facts[HEATED] = man.heated;
            facts[HOT] = man.heated > 0 ? 1 : 0;
            facts[DONE] = man.at >= steps ? 1 : 0;
        }

        void seeTime(int debts, int day) {
            facts[DEBTS] = debts / 10;
            facts[DAY] = day;
        }

        int turn(Law law) {
            if (law == null) {
                return -1;
            }
            height = 0;
            int by = 0;
            for (int i = 0; i < law.code.length; i++) {
                int code = law.code[i];
                if (code >= DOUBT) {
                    by -= pop() * (code - DOUBT);
                } else if (code >= GAIN) {
                    by += pop() * (code - GAIN);
                } else if (code >= ADD) {
                    combine(code);
                } else if (code >= FACT) {
                    push(factAt(code - FACT));
                } else {
                    push(code);
                }
            }
            return by;
        }

        private void combine(int code) {
            int right = pop();
            if (code == NOT) {
                push(1 - right);
                return;
            }
            int left = pop();
            switch (code) {
                case ADD:
                    push(left + right);
                    break;
                case LESS:
                    push(left < right ? 1 : 0);
                    break;
                case MORE:
                    push(left > right ? 1 : 0);
                    break;
                case AND:
                    push(left & right);
                    break;
                default:
                    push(left | right);
                    break;
            }
        }

        private int factAt(int fact) {
            return fact >= 0 && fact < FACTS ? facts[fact] : 0;
        }

        private void push(int value) {
            if (height < stack.length) {
                stack[height] = value;
                height++;
            }
        }

        private int pop() {
            if (height < 1) {
                return 0;
            }
            height--;
            return stack[height];
        }
    }

    /** What texts tell and days do not change. */
    private static final class Book {
        final int[] stepDays = new int[MOST_STEPS];
        final int[] stepCost = new int[MOST_STEPS];
        final int[] stepShows = new int[MOST_STEPS];
        final int[] testCost = new int[MOST_TESTS];
        final int[] testStops = new int[MOST_TESTS];
        int steps;
        int tests;
        int bar = 10;
        int luck;
        int proofGain = 10;
        int texts;
        Law law;

        void copyFrom(Book other) {
            System.arraycopy(other.stepDays, 0, stepDays, 0, MOST_STEPS);
            System.arraycopy(other.stepCost, 0, stepCost, 0, MOST_STEPS);
            System.arraycopy(other.stepShows, 0, stepShows, 0, MOST_STEPS);
            System.arraycopy(other.testCost, 0, testCost, 0, MOST_TESTS);
            System.arraycopy(other.testStops, 0, testStops, 0, MOST_TESTS);
            steps = other.steps;
            tests = other.tests;
            bar = other.bar;
            luck = other.luck;
            proofGain = other.proofGain;
            texts = other.texts;
            law = other.law;
        }

        void addStep(int days, int cost, int shows) {
            if (steps < MOST_STEPS) {
                stepDays[steps] = days;
                stepCost[steps] = cost;
                stepShows[steps] = shows;
                steps++;
            }
        }

        void addTest(int cost, int stops) {
            if (tests < MOST_TESTS) {
                testCost[tests] = cost;
                testStops[tests] = stops;
                tests++;
            }
        }

        boolean catches(int test, int tricks) {
            return (tricks & ~testStops[test]) == 0;
        }

        boolean stopsAll(int set, int tricks) {
            int left = tricks;
            for (int i = 0; i < tests; i++) {
                if ((set >> i & 1) != 0) {
                    left &= ~testStops[i];
                }
            }
            return left == 0;
        }

        int costOfTests(int set) {
            int sum = 0;
            for (int i = 0; i < tests; i++) {
                if ((set >> i & 1) != 0) {
                    sum += testCost[i];
                }
            }
            return sum;
        }

        int outlayOf(Man man) {
            int sum = 0;
            for (int i = man.heated > 0 ? man.at + 1 : man.at; i < steps; i++) {
                sum += stepCost[i];
            }
            return sum;
        }

        int daysLeftOf(Man man) {
            int sum = -man.heated;
            for (int i = man.at; i < steps; i++) {
                sum += stepDays[i];
            }
            return sum;
        }

        int showsLeftOf(Man man) {
            int sum = 0;
            for (int i = man.at; i < steps; i++) {
                sum += stepShows[i];
            }
            return sum;
        }
    }

    private static final class Man {
        int trust;
        int nails;
        int tricks;
        int at;
        int heated;
        int state;

        void copyFrom(Man other) {
            trust = other.trust;
            nails = other.nails;
            tricks = other.tricks;
            at = other.at;
            heated = other.heated;
            state = other.state;
        }

        void trustMore(int by) {
            trust = Math.max(0, Math.min(MOST_TRUST, trust + by));
        }

        // Answers what the step shows on the day on which it is over, else 0.
        int heat(Book book) {
            if (at >= book.steps) {
                return 0;
            }
            heated++;
            if (heated < book.stepDays[at]) {
                return 0;
            }
            heated = 0;
            at++;
            return book.stepShows[at - 1];
        }
    }

    /** What days and acts change. */
    private static final class Court {
        final Man[] man = new Man[MOST_MEN];
        final int[] purse = new int[MOST_RIVALS];
        final int[] parts = new int[MOST_RIVALS];
        final Log log = new Log();
        int men;
        int rivals;
        int chest = 500;
        int debts;
        int day;
        int seed = 1;

        Court() {
            for (int i = 0; i < MOST_MEN; i++) {
                man[i] = new Man();
            }
        }

        void copyFrom(Court other) {
            copyCourse(other);
            log.copyFrom(other.log);
        }

        // All but the log, which neither days nor texts look at or change.
        void copyCourse(Court other) {
            for (int i = 0; i < MOST_MEN; i++) {
                man[i].copyFrom(other.man[i]);
            }
            System.arraycopy(other.purse, 0, purse, 0, MOST_RIVALS);
            System.arraycopy(other.parts, 0, parts, 0, MOST_RIVALS);
            men = other.men;
            rivals = other.rivals;
            chest = other.chest;
            debts = other.debts;
            day = other.day;
            seed = other.seed;
        }

        void addMan(int trust, int nails, int tricks) {
            if (men < MOST_MEN) {
                Man one = man[men];
                one.trust = trust;
                one.nails = nails;
                one.tricks = tricks;
                one.at = 0;
                one.heated = 0;
                one.state = KEPT;
                men++;
            }
        }

        void addRival(int money) {
            if (rivals < MOST_RIVALS) {
                purse[rivals] = money;
                parts[rivals] = 0;
                rivals++;
            }
        }

        void spend(int cost) {
            int paid = Math.min(chest, cost);
            chest -= paid;
            debts = Math.min(MOST_MONEY, debts + cost - paid);
        }

        int passDay(Book book, Judge judge, int luck) {
            int came = 0;
            for (int i = 0; i < men; i++) {
                if (man[i].state == KEPT) {
                    passDayOf(i, book, judge);
                    came += man[i].state == TOWER ? 1 : 0;
                }
            }
            seed = 1103515245 * seed + 12345;
            int draw = seed >> 16 & 32767;
            if (draw % 100 < luck && menIn(KEPT) != 0) {
                chest = Math.min(MOST_MONEY, chest + 50);
            }
            day = Math.min(MOST_DAY, day + 1);
            return came;
        }

        private void passDayOf(int number, Book book, Judge judge) {
            Man one = man[number];
            if (one.heated == 0 && one.at < book.steps) {
                spend(book.stepCost[one.at]);
            }
            one.trustMore(one.heat(book));
            one.trustMore(judge.turnOf(number, book, this));
            if (one.trust < book.bar) {
                one.state = TOWER;
            }
        }

        int menIn(int state) {
            int bits = 0;
            for (int i = 0; i < men; i++) {
                if (man[i].state == state) {
                    bits |= 1 << i;
                }
            }
            return bits;
        }

        int trustOfKept() {
            int sum = 0;
            for (int i = 0; i < men; i++) {
                if (man[i].state == KEPT) {
                    sum += man[i].trust;
                }
            }
            return sum;
        }

        int holdersOf(int step) {
            int bits = 0;
            for (int i = 0; i < rivals; i++) {
                bits |= (parts[i] >> step & 1) << i;
            }
            return bits;
        }

        int partsOf(int set) {
            int bits = 0;
            for (int i = 0; i < rivals; i++) {
                if ((set >> i & 1) != 0) {
                    bits |= parts[i];
                }
            }
            return bits;
        }
    }

    /** The latest proofs and tests, the oldest first. */
    private static final class Log {
        static final int ROWS = 60;
        static final int WIDTH = 4;
        static final int PROOF = 0;
        static final int TESTED = 1;
        static final int CAUGHT = 2;

        final int[] cells = new int[ROWS * WIDTH];
        int rows;

        void copyFrom(Log other) {
            System.arraycopy(other.cells, 0, cells, 0, cells.length);
            rows = other.rows;
        }

        void add(int day, int man, int kind, int trust) {
            if (rows >= ROWS) {
                System.arraycopy(cells, WIDTH, cells, 0, (ROWS - 1) * WIDTH);
                rows = ROWS - 1;
            }
            int at = rows * WIDTH;
            cells[at] = day;
            cells[at + 1] = man;
            cells[at + 2] = kind;
            cells[at + 3] = trust;
            rows++;
        }

        int cell(int ago, int what) {
            if (ago < 0 || ago >= rows || what < 0 || what >= WIDTH) {
                return NONE;
            }
            return cells[(rows - 1 - ago) * WIDTH + what];
        }

        int rowsOf(int man, boolean caught) {
            int found = 0;
            for (int i = 0; i < rows; i++) {
                boolean his = cells[i * WIDTH + 1] == man;
                if (his && (!caught || cells[i * WIDTH + 2] == CAUGHT)) {
                    found++;
                }
            }
            return found;
        }
    }

    /** When a man uses his nails to be kept longest: by day, nails left and trust, each looked at once. */
    private static final class NailPlan {
        static final int DAYS = 30;
        static final int NAILS = 10;
        static final int TRUSTS = 100;
        static final int PACKED = 12;

        final Judge judge;
        final Book book;
        final Man figure = new Man();
        final int[] debts = new int[DAYS];
        final int[] at = new int[DAYS];
        final int[] heated = new int[DAYS];
        final int[] shown = new int[DAYS];
        // Five bits a day, twelve days to a long: the days kept and 1, or 0 while it is not known; an object stays small so.
        final long[] known = new long[(DAYS + PACKED - 1) / PACKED * NAILS * TRUSTS];
        int horizon;
        int number;
        int firstDay;

        NailPlan(Judge judge, Book book) {
            this.judge = judge;
            this.book = book;
        }

        // The court is a draft: it is used up by the days ahead.
        void lookAt(int man, Court draft, int days) {
            number = man;
            horizon = Math.min(DAYS, days);
            firstDay = draft.day;
            Arrays.fill(known, 0L);
            figure.copyFrom(draft.man[man]);
            for (int d = 0; d < horizon; d++) {
                debts[d] = draft.debts;
                draft.passDay(book, judge, 0);
                shown[d] = figure.heat(book);
                at[d] = figure.at;
                heated[d] = figure.heated;
            }
        }

        int mostKept(int nails, int trust) {
            return keptFrom(0, nails, trust);
        }

        // One nail more ahead of the same day, or the day passes: so each state asks the law once.
        private int keptFrom(int d, int nails, int trust) {
            if (d >= horizon || nails >= NAILS || trust >= TRUSTS) {
                return 0;
            }
            int cell = (d / PACKED * NAILS + nails) * TRUSTS + trust;
            int shift = d % PACKED * 5;
            int noted = (int) (known[cell] >> shift & 31);
            if (noted > 0) {
                return noted - 1;
            }
            int most = keptIfPassed(d, nails, trust);
            if (nails > 0 && most < horizon - d) {
                most = Math.max(most, keptFrom(d, nails - 1, proven(trust)));
            }
            known[cell] |= (long) (most + 1) << shift;
            return most;
        }

        private int keptIfPassed(int d, int nails, int trust) {
            int then = trustBehind(d, nails, trust);
            return then < book.bar ? 0 : 1 + keptFrom(d + 1, nails, then);
        }

        private int proven(int trust) {
            return Math.min(MOST_TRUST, trust + book.proofGain);
        }

        private int trustBehind(int d, int nails, int trust) {
            figure.trust = trust;
            figure.nails = nails;
            figure.at = at[d];
            figure.heated = heated[d];
            figure.trustMore(shown[d]);
            judge.see(number, figure, book.steps);
            judge.seeTime(debts[d], Math.min(MOST_DAY, firstDay + d));
            figure.trustMore(judge.turn(book.law));
            return figure.trust;
        }

        int usedAheadOf(int k, int nails, int trust) {
            int left = nails;
            int has = trust;
            for (int d = 0; d <= k; d++) {
                int used = 0;
                while (left > 0 && keptIfPassed(d, left, has) < keptFrom(d, left, has)) {
                    left--;
                    used++;
                    has = proven(has);
                }
                if (d == k) {
                    return used;
                }
                has = trustBehind(d, left, has);
                if (has < book.bar) {
                    return 0;
                }
            }
            return 0;
        }
    }

    /** Men to rivals for the most: by rival and the men who are gone, what the rivals from there on give at most. */
    private static final class Market {
        static final int SETS = 1 << MOST_MEN;

        final Court court;
        final int[] most = new int[(MOST_RIVALS + 1) * SETS];

        Market(Court court) {
            this.court = court;
        }

        void weigh() {
            Arrays.fill(most, 0);
            for (int rival = court.rivals - 1; rival >= 0; rival--) {
                for (int gone = 0; gone < 1 << court.men; gone++) {
                    int best = given(rival, gone, NONE);
                    for (int man = 0; man < court.men; man++) {
                        best = Math.max(best, given(rival, gone, man));
                    }
                    most[rival * SETS + gone] = best;
                }
            }
        }

        // What this rival and those behind it give, if it gets this man; NONE, if he cannot be had.
        private int given(int rival, int gone, int man) {
            int next = (rival + 1) * SETS;
            if (man == NONE) {
                return most[next + gone];
            }
            Man one = court.man[man];
            if (one.state != KEPT || (gone >> man & 1) != 0) {
                return NONE;
            }
            return Math.min(court.purse[rival], one.trust * 3) + most[next + (gone | 1 << man)];
        }

        int most() {
            return most[0];
        }

        int gets(int k) {
            int gone = 0;
            int got = NONE;
            for (int rival = 0; rival <= k; rival++) {
                got = NONE;
                while (got < court.men - 1 && given(rival, gone, got) < most[rival * SETS + gone]) {
                    got++;
                }
                if (got != NONE) {
                    gone |= 1 << got;
                }
            }
            return got;
        }
    }
}
