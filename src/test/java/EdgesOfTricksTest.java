/** The edges that the document names for tests and tricks: promises 25 to 31. */
public final class EdgesOfTricksTest {
    private static final Class<IndexOutOfBoundsException> NO_SUCH = IndexOutOfBoundsException.class;
    private static final Class<IllegalArgumentException> BAD = IllegalArgumentException.class;
    private static final int LEAST = Integer.MIN_VALUE;
    private static final int MOST = Integer.MAX_VALUE;

    private static final String SIX = "test cost 99 stops a;test cost 99 stops b;test cost 99 stops c;test cost 99 stops d;"
            + "test cost 99 stops e;test cost 99 stops f";
    private static final String FIVES = "test cost 1 stops bcdef;test cost 1 stops acdef;test cost 1 stops abdef;test cost 1 stops abcef;"
            + "test cost 1 stops abcdf;test cost 1 stops abcde";

    public static void main(String[] args) {
        noSuchMan();
        setsOfNone();
        fewest();
        cheapest();
        slips();
        seenAtMost();
        seenIsNotThat();
        seenSure();
        ask();
        rests();
        Run.close();
    }

    private static String man(String tricks) {
        return "man trust 50 nails 0 tricks " + tricks;
    }

    private static void noSuchMan() {
        Run run = new Run("25 to 31: no such man, no such test").book(man("a") + ";test cost 1 stops a");
        for (int none : new int[] {-1, 1, 6, LEAST, MOST}) {
            run.fails(NO_SUCH, "stopped", none, 1).fails(NO_SUCH, "fewest", none).fails(NO_SUCH, "cheapest", none, 0)
                    .fails(NO_SUCH, "cheapest", none, 1).fails(NO_SUCH, "slips", none).fails(NO_SUCH, "rests", none, 0)
                    .fails(NO_SUCH, "rests", 0, none).fails(NO_SUCH, "rests", none, none);
        }
        run.leaves(1, "stopped", 0, 1).failsAndLeaves(NO_SUCH, "rests", 0, 1);
    }

    private static void setsOfNone() {
        Run run = new Run("25: bits of no test count for nothing").book(SIX + ";" + man("abcdef") + ";" + man("a") + ";" + man("f"));
        run.due(1, "stopped", 0, 63).due(1, "stopped", 0, -1).due(1, "stopped", 0, MOST).due(0, "stopped", 0, LEAST).due(0, "stopped", 0, 0);
        for (int test = 0; test < 6; test++) {
            run.due(0, "stopped", 0, 63 - (1 << test)).due(0, "stopped", 0, -1 - (1 << test)).due(test == 0 ? 1 : 0, "stopped", 1, 1 << test)
                    .due(test == 5 ? 1 : 0, "stopped", 2, 1 << test);
        }
        for (int bit = 6; bit < 32; bit++) {
            run.due(0, "stopped", 1, 1 << bit).due(1, "stopped", 1, 1 << bit | 1);
        }
        new Run("25: without tests").book(man("a")).due(0, "stopped", 0, 0).due(0, "stopped", 0, -1).due(0, "stopped", 0, MOST);
    }

    private static void fewest() {
        new Run("26: none").book(man("ab")).due(-1, "fewest", 0).book("test cost 0 stops acdef").due(-1, "fewest", 0)
                .book("test cost 0 stops cdef").due(-1, "fewest", 0).book("test cost 0 stops bf").due(5, "fewest", 0);
        new Run("26: all of six").book(SIX + ";" + man("abcdef") + ";" + man("f") + ";" + man("ace")).due(63, "fewest", 0).due(32, "fewest", 1)
                .due(21, "fewest", 2);
        new Run("26: one that comes last is fewer").book("test cost 0 stops a;test cost 0 stops b;test cost 99 stops ab;" + man("ab"))
                .due(4, "fewest", 0);
        new Run("26: of several the least as bits").book("test cost 9 stops ab;test cost 0 stops ba;test cost 0 stops a;test cost 0 stops b;"
                + man("ab") + ";" + man("a")).due(1, "fewest", 0).due(1, "fewest", 1);
        // Pairs that stop abc: 0 and 1 (3), 1 and 2 (6), 0 and 2 (5).
        new Run("26: of several pairs the least").book("test cost 9 stops ab;test cost 0 stops bc;test cost 0 stops ca;" + man("abc"))
                .due(3, "fewest", 0);
    }

    private static void cheapest() {
        new Run("27: none").book(man("ab") + ";test cost 0 stops a").due(-1, "cheapest", 0, 0).due(-1, "cheapest", 0, 1);
        new Run("27: all of six").book(SIX + ";" + man("abcdef")).due(63, "cheapest", 0, 0).due(594, "cheapest", 0, 1);
        new Run("27: of several the least as bits").book("test cost 1 stops a;test cost 1 stops b;test cost 2 stops ab;" + man("ab"))
                .due(3, "cheapest", 0, 0).due(2, "cheapest", 0, 1).due(4, "fewest", 0);
        new Run("27: one that costs nothing is not taken along").book("test cost 0 stops f;test cost 5 stops a;test cost 0 stops e;" + man("a"))
                .due(2, "cheapest", 0, 0).due(5, "cheapest", 0, 1);
        new Run("27: for nothing").book("test cost 0 stops a;test cost 0 stops a;" + man("a")).due(1, "cheapest", 0, 0).due(0, "cheapest", 0, 1);
        new Run("27: the sixth's cost").book("test cost 9 stops a;test cost 9 stops a;test cost 9 stops a;test cost 9 stops a;test cost 9 stops a;"
                + "test cost 8 stops a;" + man("a")).due(32, "cheapest", 0, 0).due(8, "cheapest", 0, 1).due(1, "fewest", 0);
        new Run("27: one more is dearer").book("test cost 9 stops ab;test cost 4 stops a;test cost 4 stops b;" + man("ab")).due(6, "cheapest", 0, 0)
                .due(8, "cheapest", 0, 1).book("test cost 7 stops ab").due(8, "cheapest", 0, 0).due(7, "cheapest", 0, 1);
    }

    private static void slips() {
        new Run("28: all and none").book(FIVES + ";" + man("abcdef") + ";" + man("a") + ";" + man("f") + ";" + man("cd")).due(63, "slips", 0)
                .due(1, "slips", 1).due(32, "slips", 2).due(12, "slips", 3).leaves(63, "slips", 0);
        new Run("28: without tests").book(man("a")).due(0, "slips", 0).book("test cost 0 stops abcdef").due(0, "slips", 0);
    }

    private static String told(int much, int... bytes) {
        StringBuilder tale = new StringBuilder();
        for (int i = 0; i < much; i++) {
            tale.append((char) bytes[i % bytes.length]);
        }
        return tale.toString();
    }

    private static Run tale(Run run, String tale, int many, int sure, int asked) {
        return run.tape(tale).due(many, "seen", 0).due(0, "end", 1).tape(tale).due(sure, "seen", 1).due(0, "end", 1)
                .tape(tale).due(asked, "ask").due(0, "end", 1);
    }

    private static void seenAtMost() {
        Run run = new Run("29: none may be told, 40 bytes at most").book(FIVES);
        // Of all 63 sets each test catches 31, so that the greater part is 32: the first.
        tale(run, "", 63, 0, 0);
        tale(run, told(2, 0, 1), 31, 0, 1);
        tale(run, told(2, 0, 0), 32, 1, 1);
        tale(run, told(38, 5, 1), 31, 0, 0);
        tale(run, told(40, 5, 1), 31, 0, 0);
        tale(run, told(40, 0, 1, 5, 1), 15, 0, 1);
        new Run("29: without tests none can be told").due(63, "seen", 0).due(0, "seen", 1).due(-1, "ask");
        new Run("29: without men").book("test cost 0 stops a").tape(told(2, 0, 1)).due(1, "seen", 0);
    }

    private static void seenIsNotThat() {
        Run run = new Run("29, 30: the tape is not that").book(FIVES);
        String[] wrong = {told(1, 0), told(39, 0, 1), told(41, 0, 1), told(42, 0, 1), told(60, 0, 1), told(400, 0, 0), told(2, 6, 1),
            told(2, 255, 1), told(2, 0, 2), told(2, 0, 255), told(4, 0, 1, 6, 0), told(4, 0, 1, 5, 2), "01", "\0001", "0\001"};
        for (String tale : wrong) {
            run.tape(tale).fails(BAD, "seen", 0).due(0, "end", 1).tape(tale).fails(BAD, "ask").due(0, "end", 1);
        }
        run.tape(told(2, 6, 1)).failsAndLeaves(BAD, "seen", 1).tape(told(1, 0)).failsAndLeaves(BAD, "ask").due(-1, "fault");
        new Run("29, 30: a test that is not there").tape(told(2, 0, 0)).fails(BAD, "seen", 1).tape(told(2, 0, 0)).fails(BAD, "ask")
                .book("test cost 0 stops a").tape(told(2, 0, 0)).due(62, "seen", 0).tape(told(2, 1, 0)).fails(BAD, "ask");
    }

    private static void seenSure() {
        Run run = new Run("29: tricks in all of these").book(FIVES);
        // Who is caught by none of the six knows all six tricks; who is caught by the sixth alone knows a to e.
        tale(run, told(12, 0, 0, 1, 0, 2, 0, 3, 0, 4, 0, 5, 0), 1, 63, -1);
        tale(run, told(12, 0, 0, 1, 0, 2, 0, 3, 0, 4, 0, 5, 1), 1, 31, -1);
        tale(run, told(12, 0, 1, 1, 1, 2, 1, 3, 1, 4, 1, 5, 1), 0, 0, -1);
        tale(run, told(4, 0, 1, 0, 0), 0, 0, -1);
        tale(run, told(10, 0, 1, 1, 1, 2, 1, 3, 1, 4, 1), 1, 32, -1);
    }

    private static void ask() {
        // a to e are known: abcde and abcdef are left, which the last test alone parts.
        tale(new Run("30: just two sets").book(FIVES), told(10, 0, 0, 1, 0, 2, 0, 3, 0, 4, 0), 2, 31, 5);
        // a and ab are left: the first test catches neither, the second a alone.
        tale(new Run("30: one of two").book("test cost 0 stops c;test cost 0 stops a;test cost 0 stops ab;test cost 0 stops b"),
                told(4, 2, 1, 3, 0), 2, 1, 1);
        // a, b and ab are left: the second and the third part one from two, the first and the last nothing.
        tale(new Run("30: of several the least").book("test cost 0 stops abc;test cost 0 stops b;test cost 0 stops a;test cost 0 stops ab"),
                told(2, 3, 1), 3, 0, 1);
        tale(new Run("30: none parts them").book("test cost 0 stops abcdef;test cost 0 stops abcdef"), "", 63, 0, 0);
        tale(new Run("30: the last of six").book("test cost 0 stops a;test cost 0 stops ab;test cost 0 stops abc;test cost 0 stops abcd;"
                + "test cost 0 stops b;test cost 0 stops abcde"), "", 63, 0, 5);
    }

    private static void rests() {
        for (int trust : new int[] {0, 1, 99}) {
            Run run = new Run("31: trust " + trust).book("man trust " + trust + " nails 0 tricks a;test cost 0 stops a;test cost 1 stops a;"
                    + "test cost 49 stops a;test cost 50 stops a;test cost 51 stops a;test cost 99 stops a");
            int[] due = {2, 0, 0, 4, 4, 4};
            for (int test = 0; test < 6; test++) {
                run.due(due[test], "rests", 0, test);
            }
        }
        Run run = new Run("31: not caught").book(man("ab") + ";test cost 0 stops a;test cost 1 stops b;test cost 99 stops cdef;test cost 0 stops ab");
        run.due(5, "rests", 0, 0).due(4, "rests", 0, 1).due(4, "rests", 0, 2).due(2, "rests", 0, 3).leaves(5, "rests", 0, 0);
        run.call("flee", 0).due(5, "rests", 0, 0).due(2, "rests", 0, 3);
    }
}
