import java.util.NoSuchElementException;

/** The edges that the document names for what is ahead, lives, done, longest and needs: promises 18 to 24. */
public final class EdgesAheadTest {
    private static final Class<IndexOutOfBoundsException> NO_SUCH = IndexOutOfBoundsException.class;
    private static final Class<NoSuchElementException> NO_WHAT = NoSuchElementException.class;
    private static final Class<IllegalArgumentException> BAD = IllegalArgumentException.class;
    private static final int LEAST = Integer.MIN_VALUE;
    private static final int MOST = Integer.MAX_VALUE;
    private static final int[] NO_DAYS = {-1, 201, LEAST, MOST};

    public static void main(String[] args) {
        ahead();
        aheadOfNone();
        owes();
        chest();
        lives();
        done();
        longestAtMost();
        longestOfNone();
        longestFirstWay();
        longestByDebts();
        longestByTheDay();
        longestByTheLaw();
        needsAtMost();
        needsOfNone();
        Run.close();
    }

    private static String man(int trust, int nails) {
        return "man trust " + trust + " nails " + nails + " tricks a";
    }

    private static void ahead() {
        Run run = new Run("18: 0 to 200").book("bar 0;step days 2 cost 10 shows 5;" + man(50, 3) + ";luck 100;chest 15").law("", 0);
        int[][] due = {{50, 0, 0, 0}, {50, 0, 1, 0}, {55, 1, 0, 0}, {55, 1, 0, 0}};
        int[] days = {0, 1, 2, 200};
        for (int i = 0; i < days.length; i++) {
            for (int what = 0; what < 4; what++) {
                run.due(due[i][what], "ahead", 0, days[i], what);
            }
        }
        run.leaves(55, "ahead", 0, 200, 0).leaves(1, "ahead", 0, 200, 1).due(0, "count", 14).due(0, "undo");
        Run gone = new Run("18: from the tower on all stays").book("step days 3 cost 0 shows 9;" + man(11, 0)).due(10, "ahead", 0, 1, 0)
                .due(0, "ahead", 0, 1, 3).due(9, "ahead", 0, 2, 0).due(1, "ahead", 0, 2, 3).due(2, "ahead", 0, 2, 2).due(0, "ahead", 0, 2, 1);
        gone.due(9, "ahead", 0, 200, 0).due(2, "ahead", 0, 200, 2).due(0, "ahead", 0, 200, 1).due(1, "ahead", 0, 200, 3);
    }

    private static void aheadOfNone() {
        Run run = new Run("18: N is none; another what; none such, in this order").book(man(50, 0));
        for (int n : NO_DAYS) {
            run.fails(BAD, "ahead", 0, n, 0).fails(BAD, "ahead", 0, n, 4).fails(NO_SUCH, "ahead", 1, n, 0).fails(NO_SUCH, "ahead", -1, n, -1);
        }
        for (int what : new int[] {-1, 4, 5, LEAST, MOST}) {
            run.fails(NO_WHAT, "ahead", 0, 0, what).fails(NO_WHAT, "ahead", 0, 200, what).fails(NO_SUCH, "ahead", 1, 0, what);
        }
        run.failsAndLeaves(NO_WHAT, "ahead", 0, 9, 4).failsAndLeaves(BAD, "ahead", 0, 201, 0).failsAndLeaves(NO_SUCH, "ahead", 1, 9, 0);
    }

    private static void owes() {
        Run run = new Run("19: debts ahead").book("bar 0;chest 15;luck 100;step days 1 cost 10 shows 0;step days 1 cost 10 shows 0;" + man(50, 0));
        for (int n : NO_DAYS) {
            run.fails(BAD, "owes", n);
        }
        run.due(0, "owes", 0).due(0, "owes", 1).due(5, "owes", 2).due(5, "owes", 200).leaves(5, "owes", 2).failsAndLeaves(BAD, "owes", 201);
        Run full = new Run("19: 9999 at most").book("bar 0;chest 0;test cost 99 stops b;step days 1 cost 98 shows 0;step days 1 cost 2 shows 0;"
                + man(50, 0));
        for (int i = 0; i < 100; i++) {
            full.call("tried", 0, 0);
        }
        full.due(9900, "owes", 0).due(9998, "owes", 1).due(9999, "owes", 2).due(9999, "owes", 200).due(9900, "count", 8);
    }

    private static void chest() {
        Run run = new Run("20: chest ahead, without luck").book("bar 0;chest 15;luck 100;step days 1 cost 10 shows 0;step days 1 cost 10 shows 0;"
                + man(50, 0));
        for (int n : NO_DAYS) {
            run.fails(BAD, "chest", n);
        }
        run.due(5, "chest", 1).due(15, "chest", 0).due(0, "chest", 2).due(0, "chest", 200).leaves(5, "chest", 1).failsAndLeaves(BAD, "chest", -1);
    }

    private static void lives() {
        new Run("21: the first N").book(man(10, 9)).due(1, "lives", 0).book(man(11, 0)).due(2, "lives", 1).book(man(99, 0)).due(90, "lives", 2)
                .law("gain 1", 1).due(-1, "lives", 0).leaves(-1, "lives", 2);
        new Run("21: 200 at most").book(man(50, 0)).law("doubt 30 if day>198", 1).due(-1, "lives", 0).law("doubt 30 if day>197", 1)
                .due(200, "lives", 0).law("doubt 30 if day>196", 1).due(199, "lives", 0);
        new Run("21: below the bar, but not there yet").book("bar 50;" + man(0, 0)).law("gain 30", 1).due(1, "lives", 0).due(0, "man", 0, 5)
                .book("bar 30").due(-1, "lives", 0).book("bar 31").due(1, "lives", 0);
        new Run("21: none such").book(man(50, 0)).failsAndLeaves(NO_SUCH, "lives", 1).fails(NO_SUCH, "lives", -1).fails(NO_SUCH, "lives", LEAST);
    }

    private static void done() {
        new Run("22: 0, if he is so and kept").book(man(50, 0) + ";" + man(50, 0)).due(0, "done", 0).call("flee", 0).due(-1, "done", 0)
                .due(0, "done", 1).call("days", 41).due(1, "man", 1, 5).due(-1, "done", 1);
        String thirty = "step days 30 cost 0 shows 0;";
        new Run("22: 200 at most").book("bar 0;" + thirty.repeat(6) + man(50, 0)).due(180, "done", 0).book("step days 20 cost 0 shows 0")
                .due(200, "done", 0).call("days", 1).due(199, "done", 0).due(1, "undo").book("step days 1 cost 0 shows 0").due(-1, "done", 0)
                .call("days", 1).due(200, "done", 0);
        new Run("22: kept by then").book("step days 2 cost 0 shows 0;" + man(12, 0) + ";" + man(11, 0)).due(2, "done", 0).due(-1, "done", 1)
                .due(3, "lives", 0).due(2, "lives", 1);
        new Run("22: none such").book(man(50, 0)).failsAndLeaves(NO_SUCH, "done", 1).fails(NO_SUCH, "done", -1).fails(NO_SUCH, "done", MOST);
    }

    /** The days and the nails ahead of each of the 30, as a row of digits (the rest are 0). */
    private static Run used(Run run, int man, int days, String nails) {
        run.due(days, "longest", man, -1);
        for (int k = 0; k < 30; k++) {
            run.due(k < nails.length() ? nails.charAt(k) - '0' : 0, "longest", man, k);
        }
        return run;
    }

    private static void longestAtMost() {
        used(new Run("23: 30 at most").book(man(99, 9)), 0, 30, "");
        used(new Run("23: kept at the end of the 30th").book("bar 69;" + man(99, 1)), 0, 30, "");
        used(new Run("23: a nail ahead of the 30th").book("bar 70;" + man(99, 1)), 0, 30, "00000000000000000000000000000" + "1");
        used(new Run("23: a nail too few for the 30th").book("bar 70;" + man(99, 0)), 0, 29, "");
        used(new Run("23: none at all").book(man(10, 0)), 0, 0, "");
        used(new Run("23: none at all, nails or not").book("bar 99;proof 10;" + man(0, 9)).law("", 0), 0, 0, "");
        used(new Run("23: any number on one day").book("bar 99;proof 11;" + man(0, 9)).law("", 0), 0, 30, "9");
        used(new Run("23: nails of no use").book("proof 0;" + man(12, 9)), 0, 2, "");
        // Each nail is cut at 99, so that two at once are no more than one.
        used(new Run("23: each as a proof, 99 at most").book("bar 69;proof 50;" + man(60, 2)).law("doubt 30", 1), 0, 2, "11");
        used(new Run("23: 99 at most is not enough").book("bar 70;proof 50;" + man(60, 2)).law("doubt 30", 1), 0, 0, "");
        used(new Run("23: all on the last days").book("bar 69;proof 50;" + man(99, 9)).law("doubt 30", 1), 0, 10, "0111111111");
    }

    private static void longestOfNone() {
        Run run = new Run("23: k is none").book(man(50, 1));
        for (int k : new int[] {-2, 30, 31, LEAST, MOST}) {
            run.fails(BAD, "longest", 0, k).fails(NO_SUCH, "longest", 1, k).fails(NO_SUCH, "longest", -1, k);
        }
        run.failsAndLeaves(BAD, "longest", 0, 30).failsAndLeaves(NO_SUCH, "longest", 1, 0).leaves(30, "longest", 0, -1).leaves(0, "longest", 0, 0);
        run.call("flee", 0).due(-1, "longest", 0, -1).due(-1, "longest", 0, 0).due(-1, "longest", 0, 29).fails(BAD, "longest", 0, 30)
                .fails(BAD, "longest", 0, -2).fails(NO_SUCH, "longest", 1, 30);
    }

    private static void longestFirstWay() {
        // By 5 less a day from 20: kept on two days, then a nail every second day.
        used(new Run("23: the fewest, day by day").book(man(20, 3)).law("doubt 5", 1), 0, 8, "00101010");
        // Ahead of the day on which he comes to the tower he uses none, though he has one.
        used(new Run("23: from the tower on he uses none").book(man(20, 2)).law("doubt 10 if day<1;doubt 30 if day>0", 2), 0, 1, "");
        // On the third day nobody doubts any more, and a nail would keep him, were he not in the tower.
        used(new Run("23: from the tower on none is of use").book(man(20, 2)).law("doubt 10 if day<1;doubt 30 if day>0 and day<2", 2), 0, 1, "");
        // Without 2 nails on the first day he would be lost on it; on the second the third keeps him for two days.
        used(new Run("23: two at once").book(man(10, 3)).law("doubt 20 if day<1;doubt 5 if day>0", 2), 0, 3, "21");
        used(new Run("23: as many as he has, or fewer").book("bar 0;" + man(0, 9)).law("doubt 30", 1), 0, 30, "");
        // Who has nails is doubted: he uses them all at once, though they do no good else.
        used(new Run("23: nails in the hand").book("proof 0;" + man(10, 4)).law("doubt 1 if nails>0", 1), 0, 30, "4");
        // Ahead of the first day and of the 13th he has the same trust, but not the same nails and days to go.
        used(new Run("23: the same trust again").book("proof 12;" + man(20, 2)), 0, 30, "0000000000100000000000100");
        used(new Run("23: nine, three in four days").book("proof 4;" + man(10, 9)).law("doubt 3", 1), 0, 12, "111011101110");
        // Ahead of day 1 without a nail used, and ahead of day 13 with all of them used, he has the same trust; on day 13 none may be left.
        used(new Run("23: the same trust with nine and with none").book("proof 0;" + man(20, 9)).law("doubt 5 if day<1 and nails>8;"
                + "doubt 5 if day>0 and day<2;doubt 3 if day>12 and day<14;doubt 30 if day>12 and day<14 and nails>0", 4), 0, 30, "10000000000008");
        Run behind = used(new Run("23: behind acts").book(man(20, 3)).law("doubt 5", 1).call("proof", 0).call("days", 1), 0, 7, "0001010");
        behind.due(2, "man", 0, 1).due(25, "man", 0, 0);
    }

    private static void longestByDebts() {
        // Ahead, without a proof, he is in the tower on the first day: his second step is never paid, and no debts are there to doubt.
        Run saved = new Run("23: debts as they are without any proof").book("chest 0;step days 1 cost 0 shows 0;step days 1 cost 50 shows 0;" + man(15, 1))
                .law("doubt 6 if day<1;doubt 10 if debts>4", 2).due(1, "lives", 0).due(0, "owes", 30);
        used(saved, 0, 30, "1").due(1, "needs", 0, 30);
        // Of a day's own costs nothing is seen on it: he is doubted one day later than by days that pass.
        Run begin = new Run("23: at the begin of it").book("chest 0;step days 30 cost 50 shows 0;" + man(20, 0) + ";" + man(20, 0))
                .law("doubt 10 if debts>4", 1).due(2, "lives", 0).due(2, "lives", 1).due(10, "ahead", 1, 1, 0);
        used(used(begin, 0, 2, ""), 1, 2, "");
    }

    private static void longestByTheDay() {
        Run run = new Run("23: day 9999 at most");
        for (int i = 0; i < 49; i++) {
            run.call("days", 200);
        }
        String last = "999" + "+999".repeat(9) + "+8";
        run.call("days", 198).due(9998, "count", 6).book(man(50, 1)).law("doubt 10 if day>" + last + ";doubt 30 if day>" + last + "+1", 2);
        used(run, 0, 6, "000001").due(0, "needs", 0, 5).due(1, "needs", 0, 6).due(6, "lives", 0);
    }

    /** A step of three days: hot on the first two, done from the third on. */
    private static Run heating(String name, int trust, int nails, String law) {
        return new Run(name).book("step days 3 cost 0 shows 0;" + man(trust, nails)).law(law, 1);
    }

    private static void longestByTheLaw() {
        Run men = new Run("23: by the man's number").book(man(20, 0) + ";" + man(20, 0)).law("doubt 5 if man>0", 1);
        used(used(men, 1, 2, ""), 0, 30, "").due(0, "needs", 1, 2).due(1, "needs", 1, 3).due(0, "needs", 0, 30);
        used(heating("23: by at", 20, 0, "doubt 5 if at>0"), 0, 4, "");
        used(heating("23: by done", 20, 0, "doubt 5 if done"), 0, 4, "");
        used(heating("23: by hot", 20, 0, "doubt 5 if hot"), 0, 30, "");
        used(heating("23: by hot, too much", 19, 0, "doubt 5 if hot"), 0, 1, "");
        used(heating("23: by heated", 30, 1, "doubt 30 if heated>1"), 0, 30, "01");
        used(heating("23: heated on", 30, 1, "doubt 30 if heated>1").call("days", 1), 0, 30, "1");
    }

    private static void needsAtMost() {
        Run nine = new Run("24: 9 are enough").book("bar 99;proof 11;" + man(0, 0)).law("", 0).due(9, "needs", 0, 1).due(9, "needs", 0, 30)
                .due(0, "longest", 0, -1);
        nine.book("proof 10").due(-1, "needs", 0, 1).due(-1, "needs", 0, 30).book("proof 12").due(9, "needs", 0, 30).book("proof 13")
                .due(8, "needs", 0, 30).book("proof 50").due(2, "needs", 0, 1).book("bar 0").due(0, "needs", 0, 30).leaves(0, "needs", 0, 1);
        new Run("24: in place of his own").book(man(12, 9) + ";" + man(12, 0)).due(0, "needs", 0, 2).due(0, "needs", 1, 2).due(1, "needs", 0, 3)
                .due(1, "needs", 1, 3).due(3, "needs", 0, 30).due(3, "needs", 1, 30).due(30, "longest", 0, -1).due(2, "longest", 1, -1);
        new Run("24: each nail is worth ten days").book("proof 3;" + man(10, 0)).due(1, "needs", 0, 1).due(1, "needs", 0, 3).due(2, "needs", 0, 4)
                .due(9, "needs", 0, 27).due(-1, "needs", 0, 28).due(9, "needs", 0, 25).due(8, "needs", 0, 24);
    }

    private static void needsOfNone() {
        Run run = new Run("24: N is none").book(man(50, 1));
        for (int n : new int[] {0, -1, 31, LEAST, MOST}) {
            run.fails(BAD, "needs", 0, n).fails(NO_SUCH, "needs", 1, n).fails(NO_SUCH, "needs", -1, n);
        }
        run.failsAndLeaves(BAD, "needs", 0, 31).failsAndLeaves(NO_SUCH, "needs", 1, 1).call("flee", 0).due(-1, "needs", 0, 1)
                .due(-1, "needs", 0, 30).fails(BAD, "needs", 0, 0).fails(BAD, "needs", 0, 31);
    }
}
