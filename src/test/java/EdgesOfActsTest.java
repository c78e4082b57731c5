import java.util.NoSuchElementException;

/** The edges that the document names for what is there, the acts and a day: promises 7 to 17. */
public final class EdgesOfActsTest {
    private static final Class<IndexOutOfBoundsException> NO_SUCH = IndexOutOfBoundsException.class;
    private static final Class<NoSuchElementException> NO_WHAT = NoSuchElementException.class;
    private static final Class<IllegalArgumentException> BAD = IllegalArgumentException.class;
    private static final Class<IllegalStateException> CANNOT = IllegalStateException.class;
    private static final int LEAST = Integer.MIN_VALUE;
    private static final int MOST = Integer.MAX_VALUE;

    private static final String DEAR = "step days 30 cost 99 shows 50";
    private static final String FREE = "step days 1 cost 0 shows 0";
    private static final String MAN = "man trust 50 nails 1 tricks a";

    public static void main(String[] args) {
        noSuchWhat();
        sumsOfAMan();
        proofs();
        whoIsNotKept();
        trustBehindATest();
        costOfATest();
        flights();
        prices();
        partsBySales();
        partsSold();
        payments();
        numberOfDays();
        stepsByDay();
        trustByDay();
        menByNumbers();
        porcelain();
        draws();
        dayAtMost();
        Run.close();
    }

    private static String eight(String line) {
        return line + (";" + line).repeat(7);
    }

    private static void noSuchWhat() {
        Run run = new Run("7 to 10: another what, and none such").book(FREE + ";" + MAN + ";test cost 1 stops a;rival 5");
        for (int what : new int[] {-1, 4, 32, LEAST, MOST}) {
            run.fails(NO_WHAT, "step", 0, what).fails(NO_SUCH, "step", 1, what).fails(NO_SUCH, "step", -1, what);
        }
        for (int what : new int[] {-1, 10, 64, LEAST, MOST}) {
            run.fails(NO_WHAT, "man", 0, what).fails(NO_SUCH, "man", 1, what).fails(NO_SUCH, "man", -1, what);
        }
        for (int none : new int[] {-1, 1, 6, 8, LEAST, MOST}) {
            run.fails(NO_SUCH, "step", none, 0).fails(NO_SUCH, "man", none, 0).fails(NO_SUCH, "test", none, 0)
                    .fails(NO_SUCH, "test", none, 1).fails(NO_SUCH, "rival", none, 0).fails(NO_SUCH, "rival", none, 1);
        }
        Run last = new Run("7: the last of eight").book(eight(FREE)).book("rival 20;rival 20;rival 20;rival 20;rival 20;rival 20")
                .due(0, "step", 7, 3).call("part", 7, 5).due(32, "step", 7, 3).call("part", 7, 0).due(33, "step", 7, 3).due(0, "step", 6, 3);
        last.due(128, "rival", 5, 1).due(0, "rival", 5, 0).fails(NO_SUCH, "step", 8, 3).fails(NO_SUCH, "rival", 6, 1);
    }

    private static void sums(Run run, int outlay, int days, int worth) {
        run.due(outlay, "man", 0, 7).due(days, "man", 0, 8).due(worth, "man", 0, 9);
    }

    private static void sumsOfAMan() {
        Run run = new Run("8: outlay, days left and worth").book(eight(DEAR) + ";bar 0;man trust 9 nails 0 tricks a").law("", 0);
        sums(run, 792, 240, -392);
        run.call("days", 1);
        sums(run, 693, 239, -293);
        run.call("days", 28);
        sums(run, 693, 211, -293);
        run.call("days", 1);
        sums(run, 693, 210, -343);
        run.call("days", 181);
        sums(run, 0, 29, 50);
        run.call("days", 28);
        sums(run, 0, 1, 50);
        run.call("days", 1).due(8, "man", 0, 3);
        sums(run, 0, 0, 0);
        run.call("days", 2).due(8, "man", 0, 3).due(0, "man", 0, 4).due(0, "count", 7).due(292, "count", 8);
        Run behind = new Run("8: worth of who is behind all, when a step comes").book(FREE + ";" + MAN).call("days", 1);
        sums(behind, 0, 0, 0);
        behind.book("step days 3 cost 9 shows 50");
        sums(behind, 9, 3, 41);
    }

    private static void proofs() {
        new Run("11: 99 at most").book("proof 50;man trust 48 nails 2 tricks a;man trust 49 nails 1 tricks a;man trust 50 nails 1 tricks a")
                .due(98, "proof", 0).due(99, "proof", 0).due(99, "proof", 1).due(99, "proof", 2).due(99, "log", 0, 3);
        new Run("11: no nail").book("man trust 50 nails 9 tricks a;proof 0").due(50, "proof", 0).due(8, "man", 0, 1).call("proof", 0)
                .call("proof", 0).call("proof", 0).call("proof", 0).call("proof", 0).call("proof", 0).call("proof", 0).due(1, "man", 0, 1)
                .due(50, "proof", 0).due(0, "man", 0, 1).failsAndLeaves(CANNOT, "proof", 0).due(9, "count", 13);
        new Run("11: below the bar he stays kept").book("bar 99;proof 1;man trust 0 nails 1 tricks a").due(1, "proof", 0).due(0, "man", 0, 5);
        new Run("11: no such man").book(MAN).failsAndLeaves(NO_SUCH, "proof", 1).failsAndLeaves(NO_SUCH, "proof", -1)
                .failsAndLeaves(NO_SUCH, "proof", MOST).due(60, "proof", 0);
    }

    /** One in the tower, one fled, one sold: none of them can act, and a call that cannot be changes nothing. */
    private static void whoIsNotKept() {
        for (int state = 1; state <= 3; state++) {
            Run run = new Run("11 to 14: not kept, state " + state).book("test cost 5 stops a;rival 30;chest 9;man trust "
                    + (state == 1 ? "10" : "50") + " nails 1 tricks a");
            if (state == 1) {
                run.due(1, "days", 1);
            } else {
                run.call(state == 2 ? "flee" : "sell", state == 2 ? new int[] {0} : new int[] {0, 0, 7});
            }
            run.due(state, "man", 0, 5).failsAndLeaves(CANNOT, "proof", 0).failsAndLeaves(CANNOT, "tried", 0, 0)
                    .failsAndLeaves(CANNOT, "flee", 0).failsAndLeaves(CANNOT, "sell", 0, 0, 0);
            run.fails(BAD, "sell", 0, 0, 31).fails(BAD, "sell", 0, 0, -1).fails(NO_SUCH, "sell", 0, 1, 31).fails(NO_SUCH, "tried", 0, 1);
            run.due(0, "days", 200).due(state, "man", 0, 5).due(state == 1 ? 9 : 50, "man", 0, 0).due(0, "count", 12);
            run.due(-1, "lives", 0).due(-1, "done", 0).due(-1, "longest", 0, -1).due(-1, "longest", 0, 29).due(-1, "needs", 0, 1);
            run.due(state, "ahead", 0, 200, 3).due(0, "sold", -1).due(-1, "sold", 0).due(state == 1 ? 1 : 0, "kept", 1).due(0, "kept", 0);
        }
    }

    private static void tested(int trust, int bar, boolean caught, int then, int state) {
        new Run("12: trust " + trust + ", bar " + bar + (caught ? ", caught" : "")).book("bar " + bar + ";test cost 0 stops "
                + (caught ? "a" : "b") + ";man trust " + trust + " nails 0 tricks a").due(caught ? 1 : 0, "tried", 0, 0)
                .due(then, "man", 0, 0).due(state, "man", 0, 5).due(then, "log", 0, 3).due(caught ? 2 : 1, "log", 0, 2);
    }

    private static void trustBehindATest() {
        tested(0, 0, true, 0, 0);
        tested(1, 0, true, 0, 0);
        tested(1, 1, true, 0, 1);
        tested(99, 49, true, 49, 0);
        tested(99, 50, true, 49, 1);
        tested(20, 10, true, 10, 0);
        tested(21, 10, true, 10, 0);
        tested(19, 10, true, 9, 1);
        tested(0, 5, false, 5, 0);
        tested(0, 6, false, 5, 1);
        tested(93, 99, false, 98, 1);
        tested(94, 99, false, 99, 0);
        tested(95, 99, false, 99, 0);
        tested(99, 99, false, 99, 0);
        new Run("12: stops all tricks that he knows").book("bar 0;man trust 9 nails 0 tricks ab;test cost 0 stops a;test cost 0 stops b;"
                + "test cost 0 stops ba;test cost 0 stops abcdef;test cost 0 stops bcdef;test cost 0 stops cdef").due(0, "tried", 0, 0)
                .due(0, "tried", 0, 1).due(1, "tried", 0, 2).due(1, "tried", 0, 3).due(0, "tried", 0, 4).due(0, "tried", 0, 5);
        new Run("12: no such man, no such test").book(MAN + ";test cost 1 stops a").failsAndLeaves(NO_SUCH, "tried", 1, 0)
                .failsAndLeaves(NO_SUCH, "tried", 0, 1).failsAndLeaves(NO_SUCH, "tried", -1, 0).failsAndLeaves(NO_SUCH, "tried", 0, LEAST);
    }

    private static void paid(int chest, int cost, int then, int debts) {
        String men = "bar 0;chest " + chest + ";man trust 50 nails 0 tricks a";
        new Run("12: cost " + cost + " of " + chest).book(men + ";test cost " + cost + " stops b").call("tried", 0, 0)
                .due(then, "count", 7).due(debts, "count", 8);
        new Run("17: cost " + cost + " of " + chest).book(men + ";step days 2 cost " + cost + " shows 0").call("days", 1)
                .due(then, "count", 7).due(debts, "count", 8).call("days", 1).due(then, "count", 7).due(debts, "count", 8);
    }

    private static void costOfATest() {
        paid(0, 0, 0, 0);
        paid(0, 1, 0, 1);
        paid(8, 9, 0, 1);
        paid(9, 9, 0, 0);
        paid(10, 9, 1, 0);
        paid(98, 99, 0, 1);
        paid(999, 99, 900, 0);
        Run run = new Run("2: debts 9999 at most").book("chest 0;bar 0;man trust 50 nails 0 tricks a;test cost 99 stops b;test cost 98 stops b;"
                + "step days 1 cost 99 shows 0;step days 1 cost 99 shows 0");
        for (int i = 0; i < 100; i++) {
            run.call("tried", 0, 0);
        }
        run.due(9900, "count", 8).call("tried", 0, 1).due(9998, "count", 8).call("tried", 0, 1).due(9999, "count", 8).call("undo");
        run.call("days", 1).due(9999, "count", 8).call("days", 1).due(9999, "count", 8).due(2, "man", 0, 3);
    }

    private static void flights() {
        new Run("13: heated above 0").book("step days 2 cost 0 shows 0;step days 1 cost 0 shows 0;bar 0;" + MAN + ";" + MAN + ";" + MAN)
                .due(50, "flee", 2).call("days", 1).due(1, "man", 0, 4).failsAndLeaves(CANNOT, "flee", 0).call("days", 1).due(1, "man", 0, 3)
                .due(48, "flee", 0).call("days", 1).due(2, "man", 1, 3).due(47, "flee", 1).due(2, "man", 1, 5).due(0, "kept", 0);
        new Run("13: no such man").book(MAN).failsAndLeaves(NO_SUCH, "flee", 1).failsAndLeaves(NO_SUCH, "flee", -1).due(50, "flee", 0);
        new Run("13: trust that he had").book("bar 99;man trust 0 nails 0 tricks a;man trust 99 nails 0 tricks a").due(0, "flee", 0)
                .due(99, "flee", 1).due(99, "man", 1, 0).due(0, "count", 12).due(500, "count", 7).due(0, "count", 13);
    }

    private static void prices() {
        Run run = new Run("14: the price is none").book(MAN + ";rival 30;rival 0;chest 9");
        run.failsAndLeaves(BAD, "sell", 0, 0, 31).failsAndLeaves(BAD, "sell", 0, 0, -1).failsAndLeaves(BAD, "sell", 0, 1, 1);
        run.fails(BAD, "sell", 0, 0, LEAST).fails(BAD, "sell", 0, 0, MOST).fails(NO_SUCH, "sell", 1, 0, 31).fails(NO_SUCH, "sell", 0, 2, 31)
                .fails(NO_SUCH, "sell", -1, -1, -1);
        run.due(39, "sell", 0, 0, 30).due(0, "rival", 0, 0).due(39, "count", 7).due(1, "undo").due(9, "sell", 0, 1, 0).due(3, "man", 0, 5)
                .due(0, "rival", 1, 0).due(1, "undo").due(9, "sell", 0, 0, 0).due(30, "rival", 0, 0);
        Run full = new Run("14: the chest has 9999 at most").book("bar 0;luck 100;" + MAN + ";" + MAN + ";" + MAN + ";rival 999").law("", 0)
                .call("days", 180).due(9500, "count", 7).due(9998, "sell", 0, 0, 498).due(9999, "sell", 1, 0, 1).due(9999, "sell", 2, 0, 500);
        full.due(0, "rival", 0, 0).due(9999, "count", 7);
    }

    private static void partsBySales() {
        Run run = new Run("14: all steps behind which he is").book(eight(FREE) + ";bar 0;" + MAN + ";" + MAN + ";" + MAN)
                .book("rival 99;rival 99;" + MAN).law("", 0).call("sell", 0, 0, 0).due(0, "rival", 0, 1).call("days", 3)
                .call("sell", 1, 0, 0).due(7, "rival", 0, 1).call("days", 5).due(8, "man", 2, 3).call("sell", 2, 0, 0).due(255, "rival", 0, 1);
        // What it has it keeps, also if he brings the same once more.
        run.call("sell", 3, 0, 0).due(255, "rival", 0, 1).due(0, "rival", 1, 1).due(1, "step", 7, 3);
        new Run("14: the step that is heated is not behind him").book("step days 1 cost 0 shows 0;step days 2 cost 0 shows 0;" + MAN
                + ";rival 20").call("days", 2).due(1, "man", 0, 4).call("sell", 0, 0, 1).due(1, "rival", 0, 1);
        new Run("14: what it had is kept").book(FREE + ";" + FREE + ";" + FREE + ";bar 0;" + MAN + ";rival 99").call("part", 2, 0).call("days", 1)
                .call("sell", 0, 0, 9).due(5, "rival", 0, 1).due(70, "rival", 0, 0);
    }

    private static void partsSold() {
        Run run = new Run("15: each of eight").book(eight(FREE) + ";rival 999;rival 39;chest 5");
        for (int step = 0; step < 8; step++) {
            run.due((2 << step) - 1, "part", step, 0);
        }
        run.due(839, "rival", 0, 0).due(5, "count", 7);
        for (int step = 0; step < 8; step++) {
            run.fails(CANNOT, "part", step, 0);
        }
        run.due(839, "rival", 0, 0).due(128, "part", 7, 1).due(19, "rival", 1, 0).failsAndLeaves(CANNOT, "part", 6, 1);
        new Run("15: less than 20").book(FREE + ";rival 20;rival 19;rival 0").due(1, "part", 0, 0).due(0, "rival", 0, 0)
                .failsAndLeaves(CANNOT, "part", 0, 1).failsAndLeaves(CANNOT, "part", 0, 2).failsAndLeaves(CANNOT, "part", 0, 0);
        new Run("15: no such step, no such rival").book(FREE + ";rival 20").failsAndLeaves(NO_SUCH, "part", 1, 0)
                .failsAndLeaves(NO_SUCH, "part", 0, 1).failsAndLeaves(NO_SUCH, "part", -1, 0).failsAndLeaves(NO_SUCH, "part", 0, -1)
                .fails(NO_SUCH, "part", 32, 0).fails(NO_SUCH, "part", MOST, LEAST);
        new Run("15: none to sell").book("rival 20").fails(NO_SUCH, "part", 0, 0);
    }

    private static Run inDebt(String name, int chest) {
        return new Run(name).book("chest 0;test cost 60 stops b;" + MAN).call("tried", 0, 0).book("chest " + chest).due(60, "count", 8);
    }

    private static void payments() {
        inDebt("16: 1 to debts", 900).failsAndLeaves(BAD, "pay", 61).failsAndLeaves(BAD, "pay", 0).failsAndLeaves(BAD, "pay", -1)
                .fails(BAD, "pay", MOST).fails(BAD, "pay", LEAST).due(59, "pay", 1).due(0, "pay", 59).due(840, "count", 7)
                .failsAndLeaves(BAD, "pay", 1);
        inDebt("16: to the chest", 40).failsAndLeaves(BAD, "pay", 41).failsAndLeaves(BAD, "pay", 60).due(20, "pay", 40)
                .due(0, "count", 7).failsAndLeaves(BAD, "pay", 1).failsAndLeaves(BAD, "pay", 0);
        inDebt("16: all at once", 60).due(0, "pay", 60).due(0, "count", 7).due(1, "undo").due(60, "count", 8).due(60, "count", 7);
        new Run("16: without debts").failsAndLeaves(BAD, "pay", 1).failsAndLeaves(BAD, "pay", 0).failsAndLeaves(BAD, "pay", 500);
    }

    private static void numberOfDays() {
        new Run("17: 1 to 200").failsAndLeaves(BAD, "days", 0).failsAndLeaves(BAD, "days", 201).failsAndLeaves(BAD, "days", -1)
                .failsAndLeaves(BAD, "days", LEAST).failsAndLeaves(BAD, "days", MOST).due(0, "days", 1).due(1, "count", 6)
                .due(0, "days", 200).due(201, "count", 6).due(2, "count", 14);
        new Run("17: how many came to the tower").book("man trust 10 nails 0 tricks a;man trust 9 nails 0 tricks a;man trust 11 nails 0 tricks a;"
                + "man trust 99 nails 0 tricks a;" + MAN + ";" + MAN).call("flee", 4).due(2, "days", 1).due(3, "kept", 1).due(1, "days", 1)
                .due(7, "kept", 1).due(0, "days", 38).due(1, "days", 1).due(39, "kept", 1).due(1, "days", 49).due(47, "kept", 1).due(0, "days", 200);
    }

    private static void stepsByDay() {
        new Run("2: the cost is paid on the first day alone").book("chest 99;bar 0;step days 3 cost 30 shows 0;" + MAN).call("days", 1)
                .due(69, "count", 7).due(1, "man", 0, 4).call("days", 1).due(69, "count", 7).due(2, "man", 0, 4).call("days", 1)
                .due(69, "count", 7).due(0, "man", 0, 4).due(1, "man", 0, 3).call("days", 9).due(69, "count", 7).due(1, "man", 0, 3);
        new Run("2: a step of one day").book("chest 99;bar 0;step days 1 cost 30 shows 5;step days 1 cost 20 shows 5;" + MAN).law("", 0)
                .call("days", 1).due(1, "man", 0, 3).due(0, "man", 0, 4).due(55, "man", 0, 0).call("days", 1).due(2, "man", 0, 3)
                .due(49, "count", 7).due(60, "man", 0, 0).call("days", 1).due(2, "man", 0, 3).due(60, "man", 0, 0).due(49, "count", 7);
        new Run("2: a step of thirty days").book("bar 0;step days 30 cost 0 shows 7;" + MAN).law("", 0).call("days", 29).due(29, "man", 0, 4)
                .due(50, "man", 0, 0).call("days", 1).due(0, "man", 0, 4).due(57, "man", 0, 0).due(1, "man", 0, 3);
        new Run("2: shows, 99 at most").book("bar 0;step days 1 cost 0 shows 50;man trust 49 nails 0 tricks a;man trust 48 nails 0 tricks a;"
                + "man trust 99 nails 0 tricks a").law("", 0).call("days", 1).due(99, "man", 0, 0).due(98, "man", 1, 0).due(99, "man", 2, 0);
        // The shows are cut at 99 ahead of what trust turns by.
        new Run("2: shows first, then it turns").book("bar 0;step days 1 cost 0 shows 50;man trust 90 nails 0 tricks a").law("doubt 9", 1)
                .call("days", 1).due(90, "man", 0, 0);
        new Run("2: it turns by all as it is then").book("bar 0;step days 1 cost 0 shows 9;" + MAN).law("gain 1 if at>0;gain 2 if trust>58;"
                + "gain 4 if done;gain 8 if hot", 4).due(0, "man", 0, 6).call("days", 1).due(66, "man", 0, 0);
    }

    private static void day(int trust, String law, int bar, int then, int state) {
        new Run("2: trust " + trust + ", " + law + ", bar " + bar).book("bar " + bar + ";man trust " + trust + " nails 0 tricks a")
                .law(law, 1).due(state, "days", 1).due(then, "man", 0, 0).due(state, "man", 0, 5);
    }

    private static void trustByDay() {
        day(0, "doubt 1", 0, 0, 0);
        day(1, "doubt 1", 0, 0, 0);
        day(1, "doubt 1", 1, 0, 1);
        day(29, "doubt 30", 0, 0, 0);
        day(31, "doubt 30", 1, 1, 0);
        day(99, "gain 1", 99, 99, 0);
        day(98, "gain 1", 99, 99, 0);
        day(97, "gain 1", 99, 98, 1);
        day(69, "gain 30", 0, 99, 0);
        day(70, "gain 30", 0, 99, 0);
        day(11, "doubt 1", 10, 10, 0);
        day(10, "doubt 1", 10, 9, 1);
        day(10, "gain 0", 10, 10, 0);
        day(9, "gain 0", 10, 9, 1);
        day(9, "gain 1", 10, 10, 0);
    }

    private static void menByNumbers() {
        // The one ahead pays, and owes; the one behind is doubted for it on the same day.
        new Run("2: by numbers, by all as it is by then").book("chest 10;bar 0;step days 1 cost 10 shows 0;" + MAN + ";" + MAN + ";" + MAN)
                .law("doubt 1 if debts>0;doubt 4 if debts>1", 2).call("days", 1).due(50, "man", 0, 0).due(49, "man", 1, 0).due(45, "man", 2, 0);
        new Run("2: who is not kept pays nothing").book("chest 99;step days 1 cost 10 shows 9;man trust 0 nails 0 tricks a;" + MAN)
                .call("flee", 1).due(1, "days", 1).due(89, "count", 7).due(8, "man", 0, 0).call("days", 5).due(89, "count", 7).due(50, "man", 1, 0)
                .due(0, "man", 1, 3).due(8, "man", 0, 0).due(1, "man", 0, 3);
    }

    private static Run lucky(String name, int luck, int seed) {
        return new Run(name).book("bar 0;chest 100;luck " + luck + ";" + MAN).call("seed", seed).call("days", 1);
    }

    private static void porcelain() {
        // The first draw behind seed 0 is 0, behind 194 it ends in 99, behind 15 in 98, modulo 100.
        lucky("2: 0 is not below luck 0", 0, 0).due(100, "count", 7);
        lucky("2: 0 is below luck 1", 1, 0).due(150, "count", 7);
        lucky("2: 99 is not below luck 99", 99, 194).due(100, "count", 7);
        lucky("2: 98 is below luck 99", 99, 15).due(150, "count", 7);
        lucky("2: 99 is below luck 100", 100, 194).due(150, "count", 7);
        new Run("2: a man is kept").book("luck 100;chest 100;bar 10;man trust 10 nails 0 tricks a;man trust 11 nails 0 tricks a")
                .due(1, "days", 1).due(150, "count", 7).due(1, "days", 1).due(150, "count", 7).due(0, "days", 9).due(150, "count", 7);
        new Run("2: who fled or was sold is not kept").book("luck 100;chest 100;rival 5;" + MAN + ";" + MAN).call("flee", 0).call("sell", 1, 0, 0)
                .call("days", 9).due(100, "count", 7);
        new Run("2: the chest has 9999 at most").book("luck 100;bar 0;chest 949;" + MAN).law("", 0).call("days", 180).due(9949, "count", 7)
                .call("days", 1).due(9999, "count", 7).call("days", 1).due(9999, "count", 7).due(9999, "trial", 9, 0).due(9999, "span", 9, 0);
        // Porcelain comes behind the costs of all men: it pays none of the same day.
        new Run("2: porcelain comes then").book("luck 100;bar 0;chest 0;step days 1 cost 30 shows 0;" + MAN).call("days", 1)
                .due(50, "count", 7).due(30, "count", 8);
    }

    private static void draws() {
        int[] from = {-1, LEAST, MOST, 0, 1, 2};
        int[] then = {-1103502900, -2147471303, 1043980748, 12345, 1103527590, -2087924461};
        Run run = new Run("2: as an int that goes round").book("luck 0");
        for (int i = 0; i < from.length; i++) {
            run.call("seed", from[i]).call("days", 1).due(then[i], "seed", 1);
        }
        // Behind seed 2 the number is below 0: bits 16 to 30 are 908, bits 16 to 31 would be 33676.
        lucky("2: bits 16 to 30 alone", 9, 2).due(150, "count", 7);
        lucky("2: bits 16 to 30 alone, 8 is not below 8", 8, 2).due(100, "count", 7);
        new Run("2: the draw is made always").call("days", 3).due(1, "count", 14).call("image").call("days", 1).due(1, "back")
                .due(662824084, "seed", 1);
    }

    private static void dayAtMost() {
        Run run = new Run("2: day 9999 at most").book("bar 0;" + MAN + ";test cost 0 stops b");
        for (int i = 0; i < 49; i++) {
            run.call("days", 200);
        }
        run.call("days", 198).due(9998, "count", 6).call("days", 1).due(9999, "count", 6).call("days", 1).due(9999, "count", 6)
                .call("days", 200).due(9999, "count", 6).call("tried", 0, 0).due(9999, "log", 0, 0).due(1, "undo").due(1, "undo").due(9999, "count", 6);
        String before = "999" + "+999".repeat(9) + "+8";
        run.law("gain 1 if day>" + before + ";doubt 1 if day<" + before + "+1", 2).due(1, "man", 0, 6).due(1, "ahead", 0, 1, 0).due(99, "ahead", 0, 200, 0);
    }
}
