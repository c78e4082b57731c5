import java.util.NoSuchElementException;

/** The edges that the document names for the log, the seed, acts undone, the image and counts: promises 42 to 48. */
public final class EdgesOfKeepTest {
    private static final Class<IndexOutOfBoundsException> NO_SUCH = IndexOutOfBoundsException.class;
    private static final Class<NoSuchElementException> NO_WHAT = NoSuchElementException.class;
    private static final Class<IllegalArgumentException> BAD = IllegalArgumentException.class;
    private static final Class<IllegalStateException> CANNOT = IllegalStateException.class;
    private static final Class<UnsupportedOperationException> FULL = UnsupportedOperationException.class;
    private static final int LEAST = Integer.MIN_VALUE;
    private static final int MOST = Integer.MAX_VALUE;
    private static final String MAN = "man trust 50 nails 9 tricks a";
    private static final String TEST = "test cost 0 stops b";
    private static final String SIX_RIVALS = "rival 60;rival 60;rival 60;rival 60;rival 60;rival 60";

    public static void main(String[] args) {
        led();
        logOfNone();
        logOfSixty();
        seed();
        undoNothing();
        undoEach();
        undoTheLast();
        undoTwelve();
        textsAreNotUndone();
        imageOfNone();
        imageOfAll();
        imageIsOne();
        imageAndTexts();
        count();
        exceptionsInOrder();
        Run.close();
    }

    private static void led() {
        Run run = new Run("42: no such man").book(MAN + ";" + TEST);
        for (int none : new int[] {-1, 1, 6, LEAST, MOST}) {
            run.fails(NO_SUCH, "led", none, 0).fails(NO_SUCH, "led", none, 1);
        }
        run.due(0, "led", 0, 0).due(0, "led", 0, 1).failsAndLeaves(NO_SUCH, "led", 1, 0);
        // Rows of a man stay behind him, wherever he is.
        new Run("42: of who is gone").book(MAN + ";man trust 99 nails 1 tricks b;" + TEST).due(1, "tried", 1, 0).call("proof", 1).call("proof", 0)
                .due(0, "tried", 0, 0).call("flee", 1).due(2, "led", 1, 0).due(1, "led", 1, 1).due(2, "led", 0, 0).due(0, "led", 0, 1)
                .leaves(1, "led", 1, 1);
    }

    private static void logOfNone() {
        Run run = new Run("43: none without, another what").book(MAN + ";" + TEST);
        for (int what = 0; what < 4; what++) {
            run.due(-1, "log", 0, what).due(-1, "log", -1, what).due(-1, "log", 59, what);
        }
        for (int what : new int[] {-1, 4, LEAST, MOST}) {
            run.fails(NO_WHAT, "log", 0, what).fails(NO_WHAT, "log", -1, what).fails(NO_WHAT, "log", MOST, what);
        }
        run.call("proof", 0).due(0, "log", 0, 0).due(0, "log", 0, 1).due(0, "log", 0, 2).due(60, "log", 0, 3);
        for (int ago : new int[] {-1, 1, 59, 60, LEAST, MOST}) {
            run.due(-1, "log", ago, 0).due(-1, "log", ago, 3);
        }
        run.failsAndLeaves(NO_WHAT, "log", 0, 4).due(1, "count", 13);
        new Run("terms: proofs and tests alone stand in the log").book(MAN + ";rival 99;step days 1 cost 0 shows 0").call("days", 1).call("part", 0, 0)
                .call("sell", 0, 0, 9).due(0, "count", 13).due(-1, "log", 0, 0);
    }

    private static void logOfSixty() {
        Run run = new Run("43: the latest 60").book("bar 0;proof 1;man trust 10 nails 9 tricks a;man trust 50 nails 0 tricks c;" + TEST).law("", 0)
                .call("proof", 0).call("proof", 0).call("days", 1);
        for (int i = 0; i < 58; i++) {
            run.call("tried", 1, 0);
        }
        run.due(60, "count", 13).due(11, "log", 59, 3).due(12, "log", 58, 3).due(-1, "log", 60, 3).due(2, "led", 0, 0).due(58, "led", 1, 0);
        run.call("proof", 0).due(60, "count", 13).due(12, "log", 59, 3).due(0, "log", 59, 0).due(1, "log", 58, 0).due(13, "log", 0, 3)
                .due(-1, "log", 60, 0).due(2, "led", 0, 0).due(58, "led", 1, 0);
        run.call("tried", 1, 0).due(60, "count", 13).due(1, "log", 59, 1).due(1, "led", 0, 0).due(59, "led", 1, 0);
        // What had gone from the log comes again when the acts are undone.
        run.due(1, "undo").due(0, "log", 59, 1).due(2, "led", 0, 0).due(1, "undo").due(11, "log", 59, 3).due(60, "count", 13)
                .due(1, "undo").due(59, "count", 13).due(-1, "log", 59, 3).due(11, "log", 58, 3);
    }

    private static void seed() {
        new Run("44: what it was").due(1, "seed", 0).due(0, "seed", -1).due(-1, "seed", LEAST).due(LEAST, "seed", MOST).due(MOST, "seed", 1)
                .due(1, "seed", 1).due(0, "count", 14).due(0, "undo").due(0, "count", 6);
        new Run("44: no act, and no text").book(MAN).call("proof", 0).call("seed", 7).due(1, "count", 14).due(1, "undo").due(0, "undo");
    }

    private static void undoNothing() {
        new Run("45: whether there was one").due(0, "undo").due(0, "undo").book(MAN).leaves(0, "undo").call("proof", 0).due(1, "undo")
                .leaves(0, "undo").due(9, "man", 0, 1);
    }

    private static void undoEach() {
        String all = MAN + ";man trust 50 nails 1 tricks b;" + TEST + ";test cost 30 stops a;chest 20;luck 100;step days 1 cost 7 shows 3;rival 60";
        int[][] acts = {{0}, {0, 1}, {1}, {0, 0, 60}, {0, 0}, {5}, {200}};
        String[] names = {"proof", "tried", "flee", "sell", "part", "pay", "days"};
        for (int i = 0; i < names.length; i++) {
            Run run = new Run("45: all is as ahead of " + names[i]).book(all).call("tried", 1, 1).call("days", 1);
            int[] args = acts[i];
            String name = names[i];
            run.undone(name, args).due(1, "undo").due(1, "undo").due(0, "undo");
        }
    }

    /** The sixth man, the sixth rival and its parts come back too. */
    private static void undoTheLast() {
        new Run("45: the sixth of each").book(MAN + (";" + MAN).repeat(5)).book(SIX_RIVALS + ";step days 1 cost 0 shows 0;step days 1 cost 0 shows 0")
                .call("days", 1).call("part", 1, 5).undone("sell", 5, 5, 33).undone("part", 0, 5).due(2, "rival", 5, 1).due(40, "rival", 5, 0);
        new Run("47: the sixth of each").book(MAN + (";" + MAN).repeat(5)).book(SIX_RIVALS + ";step days 1 cost 0 shows 0").call("image")
                .call("days", 1).call("sell", 5, 5, 33).due(1, "back").due(0, "man", 5, 3).due(0, "man", 5, 5).due(60, "rival", 5, 0).due(0, "rival", 5, 1);
    }

    private static void undoTwelve() {
        Run run = new Run("45: 12 are remembered").book("bar 0;" + MAN + ";" + TEST);
        run.call("days", 200).call("proof", 0);
        for (int n = 1; n <= 12; n++) {
            run.call("days", n).due(Math.min(12, n + 2), "count", 14);
        }
        run.due(278, "count", 6);
        for (int n = 12; n >= 1; n--) {
            run.due(1, "undo").due(n - 1, "count", 14).due(200 + n * (n - 1) / 2, "count", 6);
        }
        run.due(0, "undo").due(200, "count", 6).due(8, "man", 0, 1).due(1, "count", 13);
        // Behind acts undone others are remembered, twelve again.
        for (int n = 1; n <= 13; n++) {
            run.call("tried", 0, 0);
        }
        run.due(12, "count", 14);
        for (int n = 1; n <= 12; n++) {
            run.due(1, "undo");
        }
        run.due(0, "undo").due(2, "count", 13);
    }

    private static void textsAreNotUndone() {
        new Run("45: a text: none are remembered").book(MAN).call("proof", 0).call("proof", 0).due(2, "count", 14).book("").due(0, "count", 14)
                .due(0, "undo").due(70, "man", 0, 0).call("proof", 0).law("", 0).due(0, "count", 14).due(0, "undo").due(80, "man", 0, 0)
                .call("proof", 0).tape("bar").fails(BAD, "book").tape("bar").fails(BAD, "law").due(1, "count", 14).due(1, "undo").due(80, "man", 0, 0);
        Run full = new Run("45: a text too many is none");
        for (int n = 1; n <= 12; n++) {
            full.tape("").due(n, "book");
        }
        full.call("days", 3).tape("").failsAndLeaves(FULL, "book").due(1, "count", 14).due(1, "undo").due(0, "count", 6);
        new Run("45: told tests are no text").book(TEST).call("days", 1).due(63, "seen", 0).due(0, "ask").due(1, "count", 14).due(1, "undo");
        new Run("45: the tape, fault and the image stay").book(MAN).wrongBook("bar x", 4).call("proof", 0).call("image").call("proof", 0)
                .tape("bar 7").due(1, "undo").due(1, "undo").due(4, "fault").due(50, "man", 0, 0).due(2, "book").due(7, "count", 9).due(1, "back")
                .due(60, "man", 0, 0).due(10, "count", 9);
    }

    private static void imageOfNone() {
        new Run("47: false, and nothing happens").book(MAN).call("proof", 0).leaves(0, "back").due(1, "count", 14).due(1, "undo").due(0, "back")
                .call("image").due(1, "back").due(1, "back");
    }

    private static void imageOfAll() {
        Run run = new Run("46, 47: the image of all").book("step days 1 cost 1 shows 1;" + MAN + ";" + TEST + ";rival 60;chest 77;bar 3;luck 4;proof 5")
                .law("gain 2", 1).call("seed", 55).call("proof", 0).call("days", 2).call("part", 0, 0).call("image");
        int[] ahead = new int[14];
        for (int what = 0; what < 14; what++) {
            ahead[what] = run.number("count", what);
        }
        int seed = run.number("seed", 5);
        int trust = run.number("man", 0, 0);
        run.call("proof", 0).call("tried", 0, 0).call("days", 9).call("sell", 0, 0, 9).law("", 0).book("chest 1;bar 2;luck 3;proof 4;rival 5")
                .book("step days 2 cost 2 shows 2;" + MAN + ";" + TEST).due(1, "back");
        for (int what = 0; what < 14; what++) {
            run.due(ahead[what], "count", what);
        }
        run.due(seed, "seed", seed).due(trust, "man", 0, 0).due(0, "man", 0, 5).due(1, "rival", 0, 1).due(40, "rival", 0, 0).due(2, "man", 0, 6);
        run.due(0, "count", 14).due(0, "undo").fails(NO_SUCH, "man", 1, 0).fails(NO_SUCH, "rival", 1, 0).fails(NO_SUCH, "step", 1, 0)
                .fails(NO_SUCH, "test", 1, 0).due(1, "led", 0, 0).due(-1, "log", 1, 0);
        // What comes behind going back stands on new ground, and the image is as it was.
        run.book("man trust 9 nails 2 tricks cd").due(9, "man", 1, 0).due(0, "man", 1, 3).due(0, "man", 1, 5).due(12, "man", 1, 2).due(1, "back")
                .fails(NO_SUCH, "man", 1, 0).due(1, "count", 4);
    }

    private static void imageIsOne() {
        new Run("46: one").book(MAN).call("image").call("proof", 0).call("image").call("proof", 0).due(1, "back").due(60, "man", 0, 0)
                .call("proof", 0).due(1, "back").due(60, "man", 0, 0).due(1, "count", 13);
        new Run("46: keeping it changes nothing").book(MAN).call("proof", 0).call("days", 1).call("image").due(2, "count", 14).due(1, "undo")
                .due(1, "undo").due(50, "man", 0, 0).due(1, "back").due(59, "man", 0, 0).due(0, "count", 14);
        new Run("46: of a new one").call("image").book(MAN + ";chest 3").law("gain 1", 1).call("days", 5).due(1, "back").due(0, "count", 1)
                .due(500, "count", 7).due(-1, "count", 5).due(0, "count", 4).due(0, "count", 6).due(1, "seed", 1).fails(NO_SUCH, "man", 0, 0);
    }

    private static void imageAndTexts() {
        Run run = new Run("47: texts of the book come back too").book("").call("image");
        for (int n = 2; n <= 12; n++) {
            run.tape("").due(n, "book");
        }
        run.tape("").fails(FULL, "book").due(1, "back").due(1, "count", 4).tape("").due(2, "book");
        new Run("47: the tape and fault stay").wrongBook("bar x", 4).call("image").wrongBook("ba", 0).tape("bar 3").due(1, "back").due(0, "fault")
                .due(1, "book").due(3, "count", 9).due(-1, "fault");
        new Run("47: eight steps again").book("step days 1 cost 1 shows 1").call("image").book("step days 2 cost 2 shows 2" + ";step days 2 cost 2 shows 2".repeat(6))
                .due(8, "count", 0).wrongBook("step days 3 cost 3 shows 3", 0).due(1, "back").book("step days 3 cost 3 shows 3")
                .due(2, "count", 0).due(3, "step", 1, 0).due(1, "step", 0, 0);
    }

    private static void count() {
        Run run = new Run("48: none for another what");
        for (int what : new int[] {-1, 15, 16, 100, LEAST, MOST}) {
            run.due(-1, "count", what);
        }
        run.leaves(-1, "count", 15).due(-1, "count", 5).tape("").due(0, "law").due(0, "count", 5);
        new Run("48: trust of all kept together").book(MAN + (";man trust 99 nails 0 tricks a").repeat(5)).due(545, "count", 12).call("flee", 0)
                .due(495, "count", 12).call("days", 1).due(490, "count", 12).call("days", 88).due(50, "count", 12).call("days", 1).due(0, "count", 12);
        new Run("48: all there can be").book("step days 1 cost 1 shows 1" + ";step days 1 cost 1 shows 1".repeat(7)).book(MAN + (";" + MAN).repeat(5))
                .book(TEST + (";" + TEST).repeat(5)).book(SIX_RIVALS).due(8, "count", 0).due(6, "count", 1).due(6, "count", 2).due(6, "count", 3)
                .due(4, "count", 4);
    }

    /** Calls that are wrong in several ways at once. */
    private static void exceptionsInOrder() {
        new Run("of several exceptions the one told first").book(MAN + ";rival 5;step days 9 cost 0 shows 0;" + TEST).call("flee", 0)
                .failsAndLeaves(NO_SUCH, "sell", 0, 1, 6).failsAndLeaves(BAD, "sell", 0, 0, 6).failsAndLeaves(CANNOT, "sell", 0, 0, 5)
                .fails(NO_SUCH, "tried", 0, 1).fails(CANNOT, "tried", 0, 0).fails(NO_SUCH, "part", 0, 1).fails(CANNOT, "part", 0, 0)
                .fails(NO_SUCH, "ahead", 1, 201, 4).fails(BAD, "ahead", 0, 201, 4).fails(NO_WHAT, "ahead", 0, 200, 4)
                .fails(NO_SUCH, "longest", 1, 30).fails(BAD, "longest", 0, 30).due(-1, "longest", 0, 29)
                .fails(NO_SUCH, "needs", 1, 31).fails(BAD, "needs", 0, 31).due(-1, "needs", 0, 30)
                .fails(NO_SUCH, "step", 1, 4).fails(NO_WHAT, "step", 0, 4).fails(NO_SUCH, "man", 1, 10).fails(NO_WHAT, "man", 0, 10)
                .fails(NO_SUCH, "sold", 1).fails(NO_SUCH, "rests", 1, 1);
    }
}
