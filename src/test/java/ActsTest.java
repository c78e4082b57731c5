import java.util.NoSuchElementException;

/** Promises 7 to 17: what is there, and the acts. */
public final class ActsTest {
    private static final Class<IndexOutOfBoundsException> NO_SUCH = IndexOutOfBoundsException.class;
    private static final Class<NoSuchElementException> NO_WHAT = NoSuchElementException.class;
    private static final Class<IllegalArgumentException> BAD = IllegalArgumentException.class;
    private static final Class<IllegalStateException> CANNOT = IllegalStateException.class;
    private static final int LEAST = Integer.MIN_VALUE;
    private static final int MOST = Integer.MAX_VALUE;

    private static final String ALL = "step days 2 cost 30 shows 4;step days 3 cost 50 shows 9;"
            + "man trust 20 nails 2 tricks ab;man trust 12 nails 0 tricks c;test cost 5 stops a;test cost 9 stops bc;"
            + "rival 60;rival 25;chest 100";

    public static void main(String[] args) {
        steps();
        men();
        testsAndRivals();
        proofs();
        tests();
        flights();
        sales();
        parts();
        payments();
        days();
        luck();
        Run.close();
    }

    private static Run all(String name) {
        return new Run(name).book(ALL);
    }

    private static void steps() {
        all("step").due(2, "step", 0, 0).due(30, "step", 0, 1).due(4, "step", 0, 2).due(3, "step", 1, 0)
                .due(50, "step", 1, 1).due(9, "step", 1, 2).due(0, "step", 0, 3)
                .call("part", 0, 1).due(2, "step", 0, 3).due(0, "step", 1, 3).call("part", 0, 0).due(3, "step", 0, 3)
                .fails(NO_WHAT, "step", 0, 4).fails(NO_WHAT, "step", 1, -1).fails(NO_SUCH, "step", 2, 0)
                .fails(NO_SUCH, "step", -1, 0).fails(NO_SUCH, "step", 2, 9).fails(NO_SUCH, "step", MOST, 0)
                .fails(NO_SUCH, "step", LEAST, LEAST);
    }

    private static void whats(Run run, int man, int... due) {
        for (int what = 0; what < due.length; what++) {
            run.due(due[what], "man", man, what);
        }
    }

    private static void men() {
        Run run = all("man");
        whats(run, 0, 20, 2, 3, 0, 0, 0, -1, 80, 5, -67);
        whats(run, 1, 12, 0, 4, 0, 0, 0, -1, 80, 5, -67);
        run.call("days", 1);
        whats(run, 0, 19, 2, 3, 0, 1, 0, -1, 50, 4, -37);
        run.call("days", 1);
        whats(run, 0, 22, 2, 3, 1, 0, 0, -1, 50, 3, -41);
        run.call("days", 2);
        whats(run, 0, 20, 2, 3, 1, 2, 0, -1, 0, 1, 9);
        run.call("days", 1);
        whats(run, 0, 28, 2, 3, 2, 0, 0, -1, 0, 0, 0);
        whats(run, 1, 20, 0, 4, 2, 0, 0, -1, 0, 0, 0);
        run.fails(NO_WHAT, "man", 0, 10).fails(NO_WHAT, "man", 0, -1).fails(NO_SUCH, "man", 2, 0)
                .fails(NO_SUCH, "man", -1, 0).fails(NO_SUCH, "man", 2, 10).fails(NO_SUCH, "man", LEAST, MOST);
        run.call("flee", 0).due(2, "man", 0, 5).due(-1, "man", 0, 6).law("gain 4 if man<1", 1).due(4, "man", 0, 6)
                .due(0, "man", 1, 6);
        new Run("without steps").book("man trust 5 nails 1 tricks a").due(0, "man", 0, 7).due(0, "man", 0, 8)
                .due(0, "man", 0, 9).due(0, "man", 0, 3);
    }

    private static void testsAndRivals() {
        all("test").due(5, "test", 0, 0).due(1, "test", 0, 1).due(9, "test", 1, 0).due(6, "test", 1, 1)
                .fails(NO_SUCH, "test", 2, 0).fails(NO_SUCH, "test", -1, 1).fails(NO_SUCH, "test", MOST, 1);
        all("rival").due(60, "rival", 0, 0).due(0, "rival", 0, 1).due(25, "rival", 1, 0).call("part", 1, 1)
                .due(5, "rival", 1, 0).due(2, "rival", 1, 1).fails(NO_SUCH, "rival", 2, 0).fails(NO_SUCH, "rival", -1, 1)
                .fails(NO_SUCH, "rival", LEAST, 1);
    }

    private static void proofs() {
        all("proof").due(30, "proof", 0).due(1, "man", 0, 1).due(30, "man", 0, 0).due(0, "man", 0, 5).due(1, "count", 13)
                .due(0, "log", 0, 0).due(0, "log", 0, 1).due(0, "log", 0, 2).due(30, "log", 0, 3).due(100, "count", 7)
                .due(40, "proof", 0).fails(CANNOT, "proof", 0).fails(CANNOT, "proof", 1).due(2, "count", 13)
                .due(2, "count", 14).fails(NO_SUCH, "proof", 2).fails(NO_SUCH, "proof", -1);
        new Run("a proof's bounds").book("proof 50;man trust 70 nails 2 tricks a").due(99, "proof", 0).due(99, "proof", 0)
                .due(0, "man", 0, 1).book("proof 0;man trust 3 nails 1 tricks b").due(3, "proof", 1).due(0, "man", 1, 5);
        all("no proof of who is not kept").call("flee", 0).fails(CANNOT, "proof", 0).due(1, "count", 14);
    }

    private static void tests() {
        Run run = all("tried").due(0, "tried", 0, 0).due(25, "man", 0, 0).due(95, "count", 7).due(1, "log", 0, 2)
                .due(25, "log", 0, 3).due(1, "tried", 1, 1).due(86, "count", 7).due(6, "man", 1, 0).due(1, "man", 1, 5)
                .due(2, "log", 0, 2).due(6, "log", 0, 3).due(1, "log", 0, 1).fails(CANNOT, "tried", 1, 1)
                .due(2, "count", 13).due(2, "count", 14);
        run.fails(NO_SUCH, "tried", 2, 0).fails(NO_SUCH, "tried", 0, 2).fails(NO_SUCH, "tried", -1, 0)
                .fails(NO_SUCH, "tried", 0, -1).fails(NO_SUCH, "tried", 1, 2);
        String stops = "chest 3;test cost 5 stops abc;test cost 0 stops a;man trust ";
        new Run("half of 21, and debts").book(stops + "21 nails 0 tricks ab").due(1, "tried", 0, 0).due(10, "man", 0, 0)
                .due(0, "man", 0, 5).due(0, "count", 7).due(2, "count", 8).due(0, "tried", 0, 1).due(15, "man", 0, 0)
                .due(1, "tried", 0, 0).due(7, "count", 8).due(7, "man", 0, 0).due(1, "man", 0, 5);
        new Run("half of 19").book(stops + "19 nails 0 tricks ab").due(1, "tried", 0, 0).due(9, "man", 0, 0).due(1, "man", 0, 5);
        new Run("99 at most").book(stops + "97 nails 0 tricks ab").due(0, "tried", 0, 1).due(99, "man", 0, 0);
        new Run("still below the bar").book(stops + "4 nails 0 tricks ab").due(0, "tried", 0, 1).due(9, "man", 0, 0)
                .due(1, "man", 0, 5);
        new Run("just the bar").book(stops + "5 nails 0 tricks ab").due(0, "tried", 0, 1).due(10, "man", 0, 0).due(0, "man", 0, 5);
    }

    private static void flights() {
        all("flee").due(20, "flee", 0).due(2, "man", 0, 5).due(20, "man", 0, 0).fails(CANNOT, "flee", 0).due(2, "kept", 0)
                .call("days", 1).fails(CANNOT, "flee", 1).due(0, "man", 1, 5).call("days", 1).due(14, "flee", 1)
                .due(0, "kept", 0).due(4, "count", 14).fails(NO_SUCH, "flee", 2).fails(NO_SUCH, "flee", -1);
        all("fled stay as they are").call("flee", 0).call("days", 3).due(20, "man", 0, 0).due(0, "man", 0, 3);
    }

    private static void sales() {
        all("sell").due(110, "sell", 0, 0, 10).due(50, "rival", 0, 0).due(0, "rival", 0, 1).due(3, "man", 0, 5)
                .fails(CANNOT, "sell", 0, 0, 10).fails(BAD, "sell", 0, 0, 51).fails(BAD, "sell", 1, 0, -1)
                .fails(BAD, "sell", 1, 1, 26).due(135, "sell", 1, 1, 25).due(0, "rival", 1, 0).due(2, "count", 14)
                .fails(NO_SUCH, "sell", 2, 0, 0).fails(NO_SUCH, "sell", 0, 2, 0).fails(NO_SUCH, "sell", -1, 0, -1)
                .fails(NO_SUCH, "sell", 0, -1, MOST);
        all("steps behind him").call("part", 1, 0).call("days", 2).due(1, "man", 0, 3).due(40, "count", 7)
                .due(40, "sell", 0, 0, 0).due(3, "rival", 0, 1).call("days", 1).due(1, "man", 1, 4)
                .due(25, "sell", 1, 1, 25).due(1, "rival", 1, 1);
        all("all steps").call("days", 5).call("sell", 0, 1, 1).due(3, "rival", 1, 1);
        new Run("9999 at most").book("luck 100;bar 0;man trust 9 nails 0 tricks a;rival 999").call("days", 189)
                .due(9950, "count", 7).due(9999, "sell", 0, 0, 50).due(949, "rival", 0, 0);
    }

    private static void parts() {
        all("part").due(1, "part", 0, 0).due(40, "rival", 0, 0).due(100, "count", 7).fails(CANNOT, "part", 0, 0)
                .due(3, "part", 1, 0).due(20, "rival", 0, 0).due(1, "part", 0, 1).due(5, "rival", 1, 0)
                .fails(CANNOT, "part", 1, 1).due(1, "rival", 1, 1).due(3, "count", 14)
                .fails(NO_SUCH, "part", 2, 0).fails(NO_SUCH, "part", 0, 2).fails(NO_SUCH, "part", -1, 0).fails(NO_SUCH, "part", 0, -1);
        new Run("just 20").book("step days 1 cost 1 shows 1;rival 20;rival 19").due(1, "part", 0, 0).due(0, "rival", 0, 0)
                .fails(CANNOT, "part", 0, 1).due(19, "rival", 1, 0);
    }

    private static void payments() {
        all("pay").fails(BAD, "pay", 1).call("days", 3).due(60, "count", 8).due(0, "count", 7).fails(BAD, "pay", 1)
                .due(40, "sell", 0, 0, 40).fails(BAD, "pay", 0).fails(BAD, "pay", 41).fails(BAD, "pay", -5)
                .due(59, "pay", 1).due(30, "pay", 29).due(10, "count", 7).due(20, "sell", 1, 1, 10).due(10, "pay", 20).fails(BAD, "pay", 1)
                .due(0, "count", 7).due(6, "count", 14);
        all("not more than the debts").call("days", 3).book("chest 900").fails(BAD, "pay", 61).due(0, "pay", 60)
                .due(840, "count", 7);
    }

    private static void days() {
        all("days").due(0, "days", 1).due(1, "count", 6).due(40, "count", 7).due(0, "days", 2).due(3, "count", 6)
                .due(0, "count", 7).due(60, "count", 8).due(0, "days", 2).due(28, "man", 0, 0).due(20, "man", 1, 0)
                .due(1, "days", 11).due(9, "man", 1, 0).due(1, "man", 1, 5).due(17, "man", 0, 0).due(2, "kept", 1)
                .due(1, "days", 200).due(3, "kept", 1).due(9, "man", 0, 0).due(0, "days", 200).due(416, "count", 6)
                .fails(BAD, "days", 0).fails(BAD, "days", 201).fails(BAD, "days", -1).fails(BAD, "days", LEAST)
                .due(416, "count", 6);
        new Run("both on one call").book("man trust 11 nails 0 tricks a;man trust 10 nails 0 tricks a").due(2, "days", 2)
                .due(3, "kept", 1);
        new Run("by numbers").book("chest 5;bar 0;step days 1 cost 10 shows 0;man trust 50 nails 0 tricks a;"
                + "man trust 50 nails 0 tricks a").law("doubt 1 if debts>0", 1).call("days", 1).due(50, "man", 0, 0)
                .due(49, "man", 1, 0).due(15, "count", 8);
        new Run("the day is that before").book("bar 0;man trust 50 nails 0 tricks a").law("gain 1 if day<1", 1)
                .call("days", 2).due(51, "man", 0, 0);
        new Run("bounds").book("man trust 90 nails 0 tricks a;step days 1 cost 99 shows 50;chest 0").law("doubt 1", 1)
                .call("days", 1).due(98, "man", 0, 0).due(99, "count", 8).law("gain 30", 1).call("days", 1).due(99, "man", 0, 0)
                .law("doubt 30", 1).call("days", 4).due(9, "man", 0, 0).due(1, "man", 0, 5);
        new Run("no trust").book("bar 0;man trust 9 nails 0 tricks a").law("doubt 30", 1).due(0, "days", 4).due(0, "man", 0, 0)
                .due(0, "man", 0, 5);
        Run run = new Run("day 9999 at most").call("days", 200);
        for (int i = 0; i < 49; i++) {
            run.call("days", 200);
        }
        run.due(9999, "count", 6).call("days", 1).due(9999, "count", 6);
        debtsAtMost();
    }

    private static void debtsAtMost() {
        Run run = new Run("debts 9999 at most").book("chest 0;test cost 99 stops a;man trust 50 nails 0 tricks b");
        for (int i = 0; i < 101; i++) {
            run.due(0, "tried", 0, 0);
        }
        run.due(9999, "count", 8).due(0, "tried", 0, 0).due(9999, "count", 8);
    }

    private static void luck() {
        // Of seed 1 the draws are 38, 58, 13, 15, 51, 27, modulo 100.
        String man = ";bar 0;chest 100;man trust 50 nails 0 tricks a";
        new Run("draws").book("luck 39" + man).call("days", 1).due(150, "count", 7).call("days", 1).due(150, "count", 7)
                .call("days", 4).due(300, "count", 7);
        new Run("not below").book("luck 38" + man).call("days", 1).due(100, "count", 7).due(1103527590, "seed", 7)
                .due(7, "seed", 1103527590).call("days", 1).due(-1770082073, "seed", 0);
        new Run("drawn always").book("luck 100").call("days", 1).due(500, "count", 7).due(1103527590, "seed", 1);
        new Run("who came to the tower today is not kept").book("luck 100;chest 100;man trust 10 nails 0 tricks a")
                .call("days", 1).due(100, "count", 7);
        new Run("9999 at most").book("luck 100;bar 0;man trust 9 nails 0 tricks a").call("days", 190).due(9999, "count", 7);
    }
}
