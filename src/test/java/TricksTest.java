/** Promises 25 to 31: tests that stop a man's tricks, which trick it was, choices that rest. */
public final class TricksTest {
    private static final Class<IndexOutOfBoundsException> NO_SUCH = IndexOutOfBoundsException.class;
    private static final Class<IllegalArgumentException> BAD = IllegalArgumentException.class;

    public static void main(String[] args) {
        stopped();
        fewestAndCheapest();
        slips();
        seen();
        ask();
        wrongTales();
        rests();
        Run.close();
    }

    private static Run three(String name) {
        return new Run(name).book("test cost 5 stops ab;test cost 5 stops bc;test cost 1 stops ac;test cost 0 stops f;"
                + "man trust 20 nails 0 tricks abc;man trust 20 nails 0 tricks b;man trust 20 nails 0 tricks ad");
    }

    private static void stopped() {
        three("stopped").due(0, "stopped", 0, 0).due(0, "stopped", 0, 1).due(1, "stopped", 0, 3).due(1, "stopped", 0, 6)
                .due(1, "stopped", 0, 15).due(1, "stopped", 1, 1).due(0, "stopped", 1, 4).due(0, "stopped", 2, 15)
                .due(1, "stopped", 0, -1).due(0, "stopped", 0, -16).due(0, "stopped", 0, 16 + 1).due(1, "stopped", 1, 64 + 2)
                .fails(NO_SUCH, "stopped", 3, 0).fails(NO_SUCH, "stopped", -1, 0);
        new Run("without tests").book("man trust 1 nails 0 tricks a").due(0, "stopped", 0, -1).due(-1, "fewest", 0)
                .due(-1, "cheapest", 0, 0).due(-1, "cheapest", 0, 1).due(0, "slips", 0);
    }

    private static void fewestAndCheapest() {
        three("fewest").due(3, "fewest", 0).due(1, "fewest", 1).due(-1, "fewest", 2).fails(NO_SUCH, "fewest", 3)
                .fails(NO_SUCH, "fewest", -1);
        three("cheapest").due(5, "cheapest", 0, 0).due(6, "cheapest", 0, 1).due(1, "cheapest", 1, 0).due(5, "cheapest", 1, 1)
                .due(-1, "cheapest", 2, 0).due(-1, "cheapest", 2, 1).fails(NO_SUCH, "cheapest", 3, 0).fails(NO_SUCH, "cheapest", -1, 1);
        new Run("one dear one, two cheap ones").book("test cost 99 stops ab;test cost 1 stops a;test cost 97 stops b;"
                + "man trust 1 nails 0 tricks ab").due(1, "fewest", 0).due(6, "cheapest", 0, 0).due(98, "cheapest", 0, 1)
                .book("test cost 98 stops abcdef").due(1, "fewest", 0).due(6, "cheapest", 0, 0)
                .book("test cost 0 stops ab").due(16, "cheapest", 0, 0).due(0, "cheapest", 0, 1).due(1, "fewest", 0);
        new Run("the tower does not matter").book("test cost 2 stops a;man trust 5 nails 0 tricks a").call("days", 1)
                .due(1, "man", 0, 5).due(1, "fewest", 0).due(2, "cheapest", 0, 1).due(0, "slips", 0).due(1, "stopped", 0, 1);
    }

    private static void slips() {
        three("slips").due(15, "slips", 0).due(12, "slips", 1).due(15, "slips", 2).fails(NO_SUCH, "slips", 3).fails(NO_SUCH, "slips", -1);
    }

    /** Tests told one behind another: which and whether somebody was caught, as bytes. */
    private static String told(int... bytes) {
        StringBuilder tale = new StringBuilder();
        for (int b : bytes) {
            tale.append((char) b);
        }
        return tale.toString();
    }

    private static Run seenAs(Run run, int many, int sure, int... bytes) {
        return run.tape(told(bytes)).due(many, "seen", 0).due(0, "end", 1).tape(told(bytes)).due(sure, "seen", 1).due(0, "end", 1);
    }

    private static void seen() {
        Run run = new Run("seen").book("test cost 0 stops abc;test cost 0 stops def;test cost 0 stops a;test cost 0 stops abcde");
        seenAs(run, 63, 0);
        seenAs(run, 7, 0, 0, 1);
        seenAs(run, 56, 0, 0, 0);
        seenAs(run, 1, 1, 2, 1);
        seenAs(run, 0, 0, 0, 1, 1, 1);
        seenAs(run, 0, 0, 0, 1, 0, 0);
        seenAs(run, 49, 0, 0, 0, 1, 0);
        seenAs(run, 32, 32, 3, 0);
        seenAs(run, 24, 0, 3, 1, 0, 0);
        int[] twenty = new int[40];
        for (int i = 1; i < 40; i += 2) {
            twenty[i] = 1;
        }
        seenAs(run, 7, 0, twenty);
        run.due(-1, "fault").due(0, "count", 14);
        seenAs(new Run("seen without tests"), 63, 0);
    }

    private static void ask() {
        Run run = new Run("ask").book("test cost 0 stops abc;test cost 0 stops def;test cost 0 stops a;test cost 0 stops abcde");
        // Of all 63 sets the tests catch 7, 7, 1 and 31.
        run.tape("").due(3, "ask");
        // Of the 7 sets of a to c they catch 7, 0, 1 and 7.
        run.tape(told(0, 1)).due(2, "ask").due(0, "end", 1);
        // Of the 32 sets with f they catch 0, 4 (f, df, ef, def), 0 and 0.
        run.tape(told(3, 0)).due(1, "ask");
        run.tape(told(2, 1)).due(-1, "ask");
        run.tape(told(0, 1, 0, 0)).due(-1, "ask");
        // Of the 3 sets of b and c none is parted: of several the least.
        new Run("ask the least").book("test cost 0 stops abc;test cost 0 stops bc;test cost 0 stops b;test cost 0 stops c")
                .tape(told(1, 1)).due(2, "ask").tape(told(1, 1, 2, 0, 3, 0)).due(-1, "ask");
        new Run("none of them parts").book("test cost 0 stops ab;test cost 0 stops abc").tape(told(0, 1)).due(0, "ask");
        new Run("ask without tests").tape("").due(-1, "ask");
    }

    private static void wrongTales() {
        Run run = new Run("wrong tales").book("test cost 0 stops abc");
        int[][] wrong = {{0}, {0, 2}, {1, 0}, {0, 1, 0}, {0, 1, 1, 1}, {255, 0}, {0, 255}, new int[42], new int[41], new int[400]};
        for (int[] bytes : wrong) {
            run.tape(told(bytes)).fails(BAD, "seen", 0).due(0, "end", 1).tape(told(bytes)).fails(BAD, "seen", 1).due(0, "end", 1)
                    .tape(told(bytes)).fails(BAD, "ask").due(0, "end", 1);
        }
        run.tape(told(new int[40])).due(56, "seen", 0).tape(told(new int[40])).due(0, "ask");
        new Run("no such test").tape(told(0, 0)).fails(BAD, "ask").tape(told(0, 0)).fails(BAD, "seen", 0);
    }

    private static void rests() {
        Run run = new Run("rests").book("test cost 5 stops a;test cost 0 stops a;test cost 49 stops ab;test cost 50 stops ab;"
                + "test cost 51 stops abc;test cost 0 stops ab;man trust 0 nails 0 tricks ab;man trust 99 nails 0 tricks b");
        int[] due = {4, 5, 0, 4, 4, 2};
        for (int test = 0; test < due.length; test++) {
            run.due(due[test], "rests", 0, test).due(due[test], "rests", 1, test);
        }
        run.fails(NO_SUCH, "rests", 2, 0).fails(NO_SUCH, "rests", 0, 6).fails(NO_SUCH, "rests", -1, 0).fails(NO_SUCH, "rests", 0, -1);
        run.call("flee", 1).due(4, "rests", 1, 0);
    }
}
