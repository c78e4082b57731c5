import java.util.NoSuchElementException;

/** Promises 18 to 24: what is ahead, how long one lives, when to use the nails. */
public final class AheadTest {
    private static final Class<IndexOutOfBoundsException> NO_SUCH = IndexOutOfBoundsException.class;
    private static final Class<NoSuchElementException> NO_WHAT = NoSuchElementException.class;
    private static final Class<IllegalArgumentException> BAD = IllegalArgumentException.class;
    private static final int LEAST = Integer.MIN_VALUE;
    private static final int MOST = Integer.MAX_VALUE;
    private static final String ALL = "step days 2 cost 30 shows 4;step days 3 cost 50 shows 9;"
            + "man trust 20 nails 2 tricks ab;man trust 12 nails 0 tricks c;chest 100";

    public static void main(String[] args) {
        ahead();
        debtsAndChest();
        lives();
        withoutLuck();
        doneWithAll();
        longest();
        longestByTheLaw();
        needs();
        Run.close();
    }

    private static void ahead() {
        Run run = new Run("ahead").book(ALL + ";luck 100").due(20, "ahead", 0, 0, 0).due(0, "ahead", 0, 0, 1)
                .due(0, "ahead", 0, 0, 2).due(0, "ahead", 0, 0, 3).due(19, "ahead", 0, 1, 0).due(1, "ahead", 0, 1, 2)
                .due(22, "ahead", 0, 2, 0).due(1, "ahead", 0, 2, 1).due(0, "ahead", 0, 2, 2).due(28, "ahead", 0, 5, 0)
                .due(2, "ahead", 0, 5, 1).due(10, "ahead", 1, 15, 0).due(0, "ahead", 1, 15, 3).due(9, "ahead", 1, 16, 0)
                .due(1, "ahead", 1, 16, 3).due(9, "ahead", 1, 200, 0);
        run.fails(BAD, "ahead", 0, -1, 0).fails(BAD, "ahead", 0, 201, 0).fails(NO_WHAT, "ahead", 0, 0, 4)
                .fails(NO_WHAT, "ahead", 0, 200, -1).fails(BAD, "ahead", 0, 201, 4).fails(NO_SUCH, "ahead", 2, 0, 0)
                .fails(NO_SUCH, "ahead", -1, 201, 4).fails(BAD, "ahead", 1, LEAST, 0).fails(BAD, "ahead", 1, MOST, 0);
        run.due(0, "count", 6).due(20, "man", 0, 0).due(0, "count", 14).due(1, "seed", 1);
        run.call("flee", 0).due(2, "ahead", 0, 9, 3).due(20, "ahead", 0, 9, 0);
    }

    private static void debtsAndChest() {
        Run run = new Run("owes and chest").book(ALL + ";luck 100").due(0, "owes", 0).due(100, "chest", 0).due(0, "owes", 2)
                .due(40, "chest", 1).due(40, "chest", 2).due(60, "owes", 3).due(0, "chest", 3).due(60, "owes", 200)
                .due(0, "chest", 200);
        run.fails(BAD, "owes", -1).fails(BAD, "owes", 201).fails(BAD, "chest", -1).fails(BAD, "chest", 201)
                .fails(BAD, "chest", LEAST).fails(BAD, "owes", MOST).due(100, "count", 7);
    }

    private static void lives() {
        Run run = new Run("lives").book(ALL).due(24, "lives", 0).due(16, "lives", 1).call("days", 5).due(19, "lives", 0)
                .due(11, "lives", 1).fails(NO_SUCH, "lives", 2).fails(NO_SUCH, "lives", -1);
        run.call("flee", 0).due(-1, "lives", 0).call("days", 20).due(-1, "lives", 1);
        String man = "man trust 10 nails 0 tricks a";
        new Run("the 200th").book(man).law("doubt 1 if day>198", 1).due(200, "lives", 0).law("doubt 1 if day>199", 1)
                .due(-1, "lives", 0).law("doubt 1", 1).due(1, "lives", 0).law("", 0).due(-1, "lives", 0);
    }

    /** Porcelain would pay the second step, and nobody would doubt; of seed 0 the first draw is 0, so that any luck would do. */
    private static void withoutLuck() {
        new Run("without luck").book("luck 100;chest 0;step days 1 cost 10 shows 0;step days 1 cost 10 shows 0;"
                + "step days 1 cost 10 shows 0;man trust 25 nails 0 tricks a").law("doubt 20 if debts>1", 1).call("seed", 0).due(2, "lives", 0)
                .due(-1, "done", 0).due(5, "ahead", 0, 2, 0).due(1, "ahead", 0, 2, 3).due(20, "owes", 2).due(0, "chest", 2)
                .due(2, "longest", 0, -1).due(1, "needs", 0, 3).due(0, "days", 9).due(0, "done", 0).due(10, "count", 8);
    }

    private static void doneWithAll() {
        Run run = new Run("done").book(ALL).due(5, "done", 0).due(5, "done", 1).call("days", 2).due(3, "done", 0).call("days", 3)
                .due(0, "done", 0).call("flee", 0).due(-1, "done", 0).call("days", 20).due(-1, "done", 1)
                .fails(NO_SUCH, "done", 2).fails(NO_SUCH, "done", -1);
        String days = "bar 0;step days 30 cost 0 shows 0;step days 30 cost 0 shows 0;step days 30 cost 0 shows 0;"
                + "step days 30 cost 0 shows 0;step days 30 cost 0 shows 0;step days 30 cost 0 shows 0;man trust 50 nails 0 tricks a";
        new Run("the 200th").book(days).due(180, "done", 0).book("step days 20 cost 0 shows 0").due(200, "done", 0)
                .book("step days 1 cost 0 shows 0").due(-1, "done", 0);
        new Run("in the tower that day").book("step days 1 cost 0 shows 0;man trust 20 nails 0 tricks a").law("doubt 11", 1)
                .due(-1, "done", 0).due(1, "lives", 0).law("doubt 10", 1).due(1, "done", 0);
        new Run("without steps").book("man trust 20 nails 0 tricks a").due(0, "done", 0);
    }

    /** The nails of the 30 days, as a row of digits. */
    private static void used(Run run, int man, int days, String nails) {
        run.due(days, "longest", man, -1);
        for (int k = 0; k < 30; k++) {
            run.due(nails.charAt(k) - '0', "longest", man, k);
        }
    }

    private static void longest() {
        Run run = new Run("longest").book("man trust 12 nails 2 tricks a");
        used(run, 0, 22, "001000000000100000000000000000");
        run.fails(BAD, "longest", 0, -2).fails(BAD, "longest", 0, 30).fails(NO_SUCH, "longest", 1, 0)
                .fails(NO_SUCH, "longest", -1, 30).fails(BAD, "longest", 0, MOST);
        run.due(2, "man", 0, 1).due(0, "count", 13).due(0, "count", 6).call("flee", 0).due(-1, "longest", 0, -1)
                .due(-1, "longest", 0, 3).fails(BAD, "longest", 0, 30);
        Run several = new Run("several on one day").book("man trust 20 nails 9 tricks a").law("doubt 30", 1);
        used(several, 0, 3, "233000000000000000000000000000");
        Run half = new Run("with shows").book("proof 50;step days 3 cost 0 shows 20;man trust 99 nails 2 tricks a").law("doubt 30", 1);
        used(half, 0, 6, "000101000000000000000000000000");
        Run never = new Run("never below").book("bar 0;man trust 0 nails 9 tricks a").law("doubt 30", 1);
        used(never, 0, 30, "000000000000000000000000000000");
        Run none = new Run("no day").book("man trust 20 nails 1 tricks a").law("doubt 30", 1);
        used(none, 0, 0, "000000000000000000000000000000");
        new Run("below the bar already").book("man trust 0 nails 1 tricks a;man trust 1 nails 1 tricks a").due(0, "longest", 0, -1)
                .due(1, "longest", 1, -1).due(1, "longest", 1, 0);
    }

    private static void longestByTheLaw() {
        Run early = new Run("early is better").book("man trust 25 nails 1 tricks a").law("gain 1 if trust>29;doubt 5 if trust<30", 2);
        used(early, 0, 30, "010000000000000000000000000000");
        Run debts = new Run("debts at the begin of the day").book("chest 0;step days 1 cost 10 shows 0;man trust 25 nails 0 tricks a")
                .law("doubt 20 if debts>0", 1).due(1, "lives", 0);
        used(debts, 0, 1, "000000000000000000000000000000");
        Run keeps = new Run("nails in the hand").book("man trust 20 nails 2 tricks a").law("doubt 1 if nails>1;doubt 3 if nails<2", 2);
        // 10 days by one less each; then a nail each time that it cannot be put off, by three less each.
        used(keeps, 0, 16, "000000000010010000000000000000");
        Run day = new Run("by the day").book("man trust 20 nails 1 tricks a").call("days", 3).law("doubt 8 if day>4", 1);
        used(day, 0, 4, "001000000000000000000000000000");
        Run other = new Run("another man's debts").book("chest 0;bar 10;man trust 30 nails 1 tricks a;man trust 30 nails 0 tricks b;"
                + "step days 30 cost 10 shows 0").law("doubt 10 if debts>1", 1);
        used(other, 0, 4, "000100000000000000000000000000");
    }

    private static void needs() {
        Run run = new Run("needs").book("man trust 12 nails 2 tricks a").due(0, "needs", 0, 1).due(0, "needs", 0, 2).due(1, "needs", 0, 3)
                .due(1, "needs", 0, 12).due(2, "needs", 0, 13).due(2, "needs", 0, 22).due(3, "needs", 0, 23).due(3, "needs", 0, 30)
                .fails(BAD, "needs", 0, 0).fails(BAD, "needs", 0, 31).fails(BAD, "needs", 0, -1).fails(NO_SUCH, "needs", 1, 0)
                .fails(NO_SUCH, "needs", -1, 1).due(2, "man", 0, 1);
        run.call("flee", 0).due(-1, "needs", 0, 1).fails(BAD, "needs", 0, 31);
        new Run("9 are not enough").book("man trust 20 nails 2 tricks a").law("doubt 30", 1).due(2, "needs", 0, 1).due(1, "longest", 0, -1)
                .due(5, "needs", 0, 2).due(8, "needs", 0, 3).due(-1, "needs", 0, 4).due(-1, "needs", 0, 30);
        // With his own 5 nails he would not come to the second step's cost; with fewer he does, and is doubted from the third day on.
        new Run("in place of his own, ahead too").book("chest 0;step days 1 cost 0 shows 0;step days 30 cost 10 shows 0;"
                + "man trust 30 nails 5 tricks a").law("doubt 30 if nails>4;doubt 5 if debts>0", 2).due(1, "lives", 0)
                .due(0, "needs", 0, 6).due(1, "needs", 0, 7).due(1, "needs", 0, 8).due(2, "needs", 0, 9);
        Run fewer = new Run("fewer are better").book("man trust 30 nails 5 tricks a").law("doubt 30 if nails>0", 1).due(0, "needs", 0, 30);
        used(fewer, 0, 30, "131000000000000000000000000000");
    }
}
