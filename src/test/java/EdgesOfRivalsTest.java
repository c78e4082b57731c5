/** The edges that the document names for odds, rivals, sums, trials and spans: promises 32 to 41. */
public final class EdgesOfRivalsTest {
    private static final Class<IndexOutOfBoundsException> NO_SUCH = IndexOutOfBoundsException.class;
    private static final Class<IllegalArgumentException> BAD = IllegalArgumentException.class;
    private static final int LEAST = Integer.MIN_VALUE;
    private static final int MOST = Integer.MAX_VALUE;
    private static final String STEP = "step days 1 cost 0 shows 0";
    private static final String MAN = "man trust 50 nails 0 tricks a";

    public static void main(String[] args) {
        oddsOfNone();
        oddsRoundedDown();
        bids();
        soldOfNone();
        soldForTheMost();
        soldInTheFirstWay();
        secret();
        mates();
        knows();
        dearest();
        kept();
        trialOfNone();
        trial();
        span();
        Run.close();
    }

    private static String man(int trust) {
        return "man trust " + trust + " nails 0 tricks a";
    }

    private static void oddsOfNone() {
        Run run = new Run("32: N or K are none").book("luck 50");
        for (int none : new int[] {-1, 6, LEAST, MOST}) {
            run.fails(BAD, "odds", none, 0).fails(BAD, "odds", 0, none).fails(BAD, "odds", none, 5).fails(BAD, "odds", 5, none)
                    .fails(BAD, "odds", none, none);
        }
        run.failsAndLeaves(BAD, "odds", 6, 6).leaves(312, "odds", 5, 5);
        for (int n = 0; n <= 5; n++) {
            run.due(10000, "odds", n, 0);
            for (int k = n + 1; k <= 5; k++) {
                run.due(0, "odds", n, k);
            }
        }
    }

    private static void oddsRoundedDown() {
        new Run("32: luck 0").book("luck 0").due(10000, "odds", 0, 0).due(10000, "odds", 5, 0).due(0, "odds", 1, 1).due(0, "odds", 5, 5);
        new Run("32: luck 100").book("luck 100").due(10000, "odds", 0, 0).due(10000, "odds", 1, 1).due(10000, "odds", 5, 5).due(0, "odds", 4, 5);
        new Run("32: luck 1").book("luck 1").due(100, "odds", 1, 1).due(1, "odds", 2, 2).due(0, "odds", 3, 3).due(0, "odds", 5, 5)
                .due(490, "odds", 5, 1).due(9, "odds", 5, 2);
        new Run("32: luck 99").book("luck 99").due(9900, "odds", 1, 1).due(9999, "odds", 2, 1).due(9999, "odds", 5, 1).due(9509, "odds", 5, 5)
                .due(9990, "odds", 5, 4);
        new Run("32: luck 10").book("luck 10").due(1, "odds", 4, 4).due(0, "odds", 5, 5).due(4095, "odds", 5, 1).due(814, "odds", 5, 2);
        new Run("32: also without men, and whom nobody trusts").book("luck 50;" + man(9)).call("days", 1).due(5000, "odds", 1, 1);
    }

    private static void bid(String purses, int who, int price) {
        Run run = new Run("33: purses " + purses);
        for (String purse : purses.split(" ")) {
            run.book("rival " + purse);
        }
        run.due(who, "bids", 0).due(price, "bids", 1);
    }

    private static void bids() {
        new Run("33: none without").due(-1, "bids", 0).due(0, "bids", 1);
        bid("7", 0, 0);
        bid("0", 0, 0);
        bid("999", 0, 0);
        bid("0 0", 0, 0);
        bid("5 9", 1, 5);
        bid("9 5", 0, 5);
        bid("9 9", 0, 9);
        bid("5 9 9", 1, 9);
        bid("9 5 9", 0, 9);
        bid("8 9 5", 1, 8);
        bid("5 8 9", 2, 8);
        bid("1 2 3 4 5 6", 5, 5);
        bid("6 5 4 3 2 1", 0, 5);
        bid("999 999 999 999 999 999", 0, 999);
        new Run("33: by the purse that is left").book("rival 30;rival 20;" + STEP).due(0, "bids", 0).call("part", 0, 0).due(1, "bids", 0)
                .due(10, "bids", 1).leaves(1, "bids", 0);
    }

    private static void soldOfNone() {
        Run none = new Run("34: there is no such rival").book(MAN);
        for (int k : new int[] {0, -2, 1, 6, LEAST, MOST}) {
            none.fails(NO_SUCH, "sold", k);
        }
        none.due(0, "sold", -1).book("rival 9").due(9, "sold", -1).due(0, "sold", 0).failsAndLeaves(NO_SUCH, "sold", 1)
                .failsAndLeaves(NO_SUCH, "sold", -2).leaves(9, "sold", -1).leaves(0, "sold", 0);
        new Run("34: no men").book("rival 9;rival 9").due(0, "sold", -1).due(-1, "sold", 0).due(-1, "sold", 1);
        new Run("34: kept men alone").book("rival 99;rival 99;rival 99;" + man(9) + ";" + man(20) + ";" + man(30) + ";" + man(11)).call("days", 1)
                .call("flee", 1).call("sell", 2, 2, 0).due(30, "sold", -1).due(-1, "sold", 0).due(-1, "sold", 1).due(3, "sold", 2)
                .call("days", 1).due(0, "sold", -1).due(-1, "sold", 2);
    }

    private static void soldForTheMost() {
        new Run("34: the lesser of purse and trust times 3").book("rival 296;" + man(99)).due(296, "sold", -1).book("rival 297").due(297, "sold", -1)
                .due(-1, "sold", 0).due(0, "sold", 1).book("rival 298").due(297, "sold", -1).due(-1, "sold", 1).due(0, "sold", 2);
        new Run("34: six to six").book("rival 999;rival 999;rival 999;rival 999;rival 999;rival 999")
                .book(man(10) + (";" + man(10)).repeat(5)).due(180, "sold", -1).due(0, "sold", 0).due(1, "sold", 1).due(2, "sold", 2)
                .due(3, "sold", 3).due(4, "sold", 4).due(5, "sold", 5).fails(NO_SUCH, "sold", 6);
        new Run("34: more men than rivals").book("rival 999;" + man(10) + ";" + man(30) + ";" + man(20)).due(90, "sold", -1).due(1, "sold", 0);
        new Run("34: the greater purse is not for the first").book("rival 30;rival 90;" + man(30) + ";" + man(10)).due(120, "sold", -1)
                .due(1, "sold", 0).due(0, "sold", 1);
        // Behind the image there is one rival less; what was weighed for two is forgotten.
        new Run("34: fewer rivals again").book("rival 50;" + man(20)).call("image").due(50, "sold", -1).book("rival 60;" + MAN)
                .due(110, "sold", -1).due(1, "back").due(50, "sold", -1).due(0, "sold", 0).fails(NO_SUCH, "sold", 1);
    }

    private static void soldInTheFirstWay() {
        new Run("34: none ahead of man 0").book("rival 30;rival 30;rival 30;" + man(10) + ";" + man(10)).due(60, "sold", -1).due(-1, "sold", 0)
                .due(0, "sold", 1).due(1, "sold", 2);
        new Run("34: who gives nothing gets none").book("rival 0;rival 5;" + man(0) + ";" + man(10)).due(5, "sold", -1).due(-1, "sold", 0)
                .due(1, "sold", 1);
        // The first rival takes the first by whom nothing is lost: man 0, though it gives as much for man 1.
        new Run("34: the least man of several").book("rival 9;rival 9;" + man(10) + ";" + man(20) + ";" + man(3)).due(18, "sold", -1)
                .due(0, "sold", 0).due(1, "sold", 1);
    }

    private static void secret() {
        new Run("35: 0 without steps").due(0, "secret").book("rival 99").due(0, "secret").book(STEP).due(-1, "secret").call("part", 0, 0)
                .due(1, "secret").leaves(1, "secret");
        String rivals = "rival 999;rival 999;rival 999;rival 999;rival 999;rival 999";
        Run all = new Run("35: all six for eight").book(STEP + (";" + STEP).repeat(7)).book(rivals);
        for (int step = 0; step < 8; step++) {
            all.due(-1, "secret").call("part", step, step % 6);
        }
        all.due(63, "secret").call("part", 5, 0).due(31, "secret").call("part", 1, 0).due(31, "secret").call("part", 7, 0)
                .due(29, "secret");
        Run over = new Run("35: parts that two of them hold").book(STEP + ";" + STEP + ";" + STEP + ";rival 99;rival 99;rival 99").call("part", 0, 0)
                .call("part", 1, 0).call("part", 1, 1).call("part", 2, 1).due(3, "secret");
        // Also rivals 0 and 2 hold all, but 3 is less than 5; rival 2 alone is fewer than both.
        over.call("part", 2, 2).due(3, "secret").call("part", 0, 2).due(3, "secret").call("part", 1, 2).due(4, "secret");
    }

    private static void mates() {
        Run run = new Run("36: six of one kind").due(0, "mates");
        int[] due = {0, 1, 3, 6, 10, 15};
        for (int n = 0; n < 6; n++) {
            run.book("man trust 50 nails 0 tricks " + (n % 2 == 0 ? "af" : "fa")).due(due[n], "mates");
        }
        run.call("flee", 0).call("flee", 5).due(15, "mates").leaves(15, "mates");
        new Run("36: none the same").book("man trust 50 nails 0 tricks a;man trust 50 nails 0 tricks b;man trust 50 nails 0 tricks ab;"
                + "man trust 50 nails 0 tricks abc;man trust 50 nails 0 tricks bc;man trust 50 nails 0 tricks ac").due(0, "mates");
        new Run("36: two pairs").book("man trust 50 nails 0 tricks a;man trust 50 nails 0 tricks b;man trust 50 nails 0 tricks b;"
                + "man trust 50 nails 0 tricks a").due(2, "mates");
    }

    private static void knows() {
        Run run = new Run("37: 0 to 5").book(MAN + ";man trust 50 nails 0 tricks f;man trust 50 nails 0 tricks abcdef").due(5, "knows", 0)
                .due(4, "knows", 1).due(4, "knows", 4).due(6, "knows", 5);
        for (int trick : new int[] {-1, 6, 31, 32, LEAST, MOST}) {
            run.fails(BAD, "knows", trick);
        }
        run.failsAndLeaves(BAD, "knows", 6).book(MAN + ";" + MAN + ";" + MAN).due(61, "knows", 0).call("flee", 5).due(61, "knows", 0);
        new Run("37: nobody").due(0, "knows", 0).due(0, "knows", 5).fails(BAD, "knows", 6);
    }

    private static void dearest() {
        String cost = "step days 1";
        Run run = new Run("38: none, and the least of several").due(-1, "dearest").book(cost + " cost 0 shows 0").due(0, "dearest")
                .book(cost + " cost 0 shows 50").due(0, "dearest").book(cost + " cost 5 shows 0").due(2, "dearest").book(cost + " cost 5 shows 9")
                .due(2, "dearest").book(cost + " cost 4 shows 0;" + cost + " cost 98 shows 0").due(5, "dearest");
        run.book(cost + " cost 98 shows 0").due(5, "dearest").book(cost + " cost 99 shows 0").due(7, "dearest").leaves(7, "dearest");
    }

    private static void kept() {
        new Run("39: all six").due(0, "kept", 0).book(man(10) + ";" + man(11) + ";" + man(12) + ";" + man(13) + ";" + man(50) + ";" + man(50) + ";rival 9")
                .due(63, "kept", 0).due(0, "kept", 1).call("flee", 4).call("sell", 5, 0, 0).due(15, "kept", 0).due(0, "kept", 1)
                .call("days", 2).due(12, "kept", 0).due(3, "kept", 1).call("days", 2).due(0, "kept", 0).due(15, "kept", 1).leaves(15, "kept", 1);
    }

    private static void trialOfNone() {
        Run run = new Run("40, 41: N is none").book(MAN);
        for (int n : new int[] {-1, 201, LEAST, MOST}) {
            run.fails(BAD, "trial", n, 0).fails(BAD, "trial", n, 1).fails(BAD, "span", n, 0).fails(BAD, "span", n, 1);
        }
        run.failsAndLeaves(BAD, "trial", 201, 0).failsAndLeaves(BAD, "span", 201, 0);
    }

    private static void trial() {
        Run run = new Run("40: 0 to 200, and nothing stays").book("luck 100;chest 0;" + man(12) + ";" + man(99)).due(0, "trial", 0, 0)
                .due(2, "trial", 0, 1).due(50, "trial", 1, 0).due(2, "trial", 2, 1).due(1, "trial", 3, 1).due(1, "trial", 89, 1)
                .due(4450, "trial", 89, 0).due(0, "trial", 90, 1).due(4450, "trial", 90, 0).due(4450, "trial", 200, 0).due(0, "trial", 200, 1);
        run.leaves(4450, "trial", 200, 0).leaves(0, "trial", 200, 1).due(0, "count", 14);
        new Run("40: 9999 at most").book("luck 100;bar 0;" + MAN).due(9950, "trial", 189, 0).due(9999, "trial", 190, 0).due(9999, "trial", 200, 0)
                .due(500, "count", 7);
        // By seed 0 the first draw is 0, by seed 194 it is 99: by luck 1 there is porcelain for the one alone.
        new Run("40: draws from now on").book("luck 1;chest 0;" + MAN).call("seed", 0).due(50, "trial", 1, 0).call("seed", 194).due(0, "trial", 1, 0)
                .due(194, "seed", 0).call("days", 1).due(50, "count", 7);
    }

    /** Porcelains of so many days by luck: the least and the most of the seeds 1 to 6 alone. */
    private static void spanOf(String name, int days, int luck, int least, int most) {
        new Run("41: " + name).book("bar 0;chest 0;luck " + luck + ";" + MAN).call("seed", 0).due(50 * least, "span", days, 0)
                .due(50 * most, "span", days, 1).due(0, "seed", 0);
    }

    private static void span() {
        spanOf("no day", 0, 100, 0, 0);
        spanOf("each day", 3, 100, 3, 3);
        spanOf("seed 1 has the most", 6, 59, 3, 6);
        spanOf("seed 2 alone has one", 1, 9, 0, 1);
        spanOf("seed 5 alone has none", 1, 48, 0, 1);
        spanOf("seed 6 alone has none", 7, 11, 0, 1);
        spanOf("seed 0 would have one", 1, 1, 0, 0);
        spanOf("seed 7 would have one", 2, 7, 0, 0);
        spanOf("seed 7 would have none", 1, 56, 1, 1);
        spanOf("seed 0 would have one less", 2, 67, 2, 2);
        Run run = new Run("41: nothing stays").book("luck 50;" + MAN).call("days", 2);
        run.leaves(run.number("span", 200, 0), "span", 200, 0).leaves(run.number("span", 200, 1), "span", 200, 1).due(1, "count", 14);
        new Run("41: costs too").book("luck 0;chest 30;step days 1 cost 20 shows 0;step days 1 cost 20 shows 0;" + MAN).due(30, "span", 0, 0)
                .due(10, "span", 1, 0).due(10, "span", 1, 1).due(0, "span", 2, 1).due(0, "span", 200, 1);
    }
}
