import java.util.NoSuchElementException;

/** Promises 42 to 48: the log, the seed, acts undone, the image, counts. */
public final class KeepTest {
    private static final Class<IndexOutOfBoundsException> NO_SUCH = IndexOutOfBoundsException.class;
    private static final Class<NoSuchElementException> NO_WHAT = NoSuchElementException.class;
    private static final String ALL = "step days 2 cost 30 shows 4;man trust 40 nails 3 tricks ab;man trust 30 nails 1 tricks c;"
            + "test cost 5 stops a;test cost 9 stops bc;rival 60;chest 100";

    public static void main(String[] args) {
        log();
        logOfSixty();
        logGoesOn();
        seed();
        undo();
        undoEachAct();
        undoTwelve();
        image();
        count();
        Run.close();
    }

    private static Run all(String name) {
        return new Run(name).book(ALL);
    }

    private static void log() {
        Run run = all("log").due(-1, "log", 0, 0).due(-1, "log", 0, 3).due(0, "led", 0, 0).call("proof", 0).call("days", 2)
                .call("tried", 1, 1).call("tried", 0, 0).due(3, "count", 13);
        int[][] rows = {{2, 0, 1, 57}, {2, 1, 2, 16}, {0, 0, 0, 50}};
        for (int ago = 0; ago < rows.length; ago++) {
            for (int what = 0; what < 4; what++) {
                run.due(rows[ago][what], "log", ago, what);
            }
        }
        run.due(-1, "log", 3, 0).due(-1, "log", -1, 0).due(-1, "log", Integer.MAX_VALUE, 0).due(-1, "log", Integer.MIN_VALUE, 3);
        run.fails(NO_WHAT, "log", 0, 4).fails(NO_WHAT, "log", 0, -1).fails(NO_WHAT, "log", 9, 4).fails(NO_WHAT, "log", -1, -1);
        run.due(2, "led", 0, 0).due(0, "led", 0, 1).due(1, "led", 1, 0).due(1, "led", 1, 1).fails(NO_SUCH, "led", 2, 0)
                .fails(NO_SUCH, "led", -1, 1);
    }

    private static void logOfSixty() {
        Run run = new Run("log of 60").book("man trust 50 nails 9 tricks a;man trust 20 nails 9 tricks b;test cost 0 stops b;proof 1")
                .law("", 0).call("proof", 1).call("days", 1);
        for (int i = 0; i < 59; i++) {
            run.call("tried", 0, 0);
        }
        run.due(60, "count", 13).due(1, "log", 59, 1).due(0, "log", 59, 0).due(1, "led", 1, 0).due(59, "led", 0, 0);
        run.call("proof", 0).due(60, "count", 13).due(0, "log", 59, 1).due(1, "log", 59, 0).due(-1, "log", 60, 0)
                .due(0, "led", 1, 0).due(60, "led", 0, 0).due(0, "log", 0, 2);
        run.call("undo").due(60, "count", 13).due(1, "log", 59, 1).due(0, "log", 59, 2).due(1, "log", 0, 2).due(1, "led", 1, 0);
        for (int i = 0; i < 65; i++) {
            run.call("tried", 0, 0);
        }
        run.due(60, "count", 13).due(60, "led", 0, 0).due(1, "tried", 1, 0).due(1, "led", 1, 1).due(59, "led", 0, 0).due(10, "log", 0, 3);
    }

    private static void logGoesOn() {
        Run run = new Run("each row moves up").book("bar 0;test cost 0 stops b;man trust 50 nails 0 tricks a;man trust 50 nails 0 tricks a");
        for (int day = 0; day < 70; day++) {
            run.call("tried", day % 2, 0).call("days", 1);
        }
        for (int ago = 0; ago < 60; ago++) {
            run.due(69 - ago, "log", ago, 0).due((69 - ago) % 2, "log", ago, 1).due(1, "log", ago, 2);
        }
        run.due(-1, "log", 60, 0).due(30, "led", 0, 0).due(30, "led", 1, 0);
    }

    private static void seed() {
        new Run("seed").due(1, "seed", -5).due(-5, "seed", Integer.MIN_VALUE).due(Integer.MIN_VALUE, "seed", 0).due(0, "seed", 1)
                .call("days", 1).due(1103527590, "seed", 1).due(1, "count", 14).call("undo").due(1, "seed", 1);
        new Run("seed 0").call("seed", 0).call("days", 1).due(12345, "seed", 1);
    }

    private static void undo() {
        all("undo").due(0, "undo").call("proof", 0).call("days", 3).call("flee", 1).due(3, "count", 14).due(1, "undo").due(0, "man", 1, 5)
                .due(2, "count", 14).due(1, "undo").due(0, "count", 6).due(100, "count", 7).due(0, "man", 0, 3).due(50, "man", 0, 0)
                .due(1, "count", 13).due(1, "undo").due(3, "man", 0, 1).due(40, "man", 0, 0).due(0, "count", 13).due(0, "undo")
                .due(0, "count", 14);
        all("undo then act").call("proof", 0).call("proof", 0).call("undo").call("proof", 1).due(2, "count", 14).call("undo").call("undo")
                .due(0, "undo").due(3, "man", 0, 1).due(1, "man", 1, 1);
        all("undo with a seed told since").call("proof", 0).call("seed", 9).call("undo").due(1, "seed", 1);
        all("undo leaves the tape").call("proof", 0).tape("bar 3").call("undo").due(2, "book").due(3, "count", 9);
        all("what throws is not remembered").call("flee", 0).fails(IllegalStateException.class, "proof", 0)
                .fails(IllegalStateException.class, "tried", 0, 0).fails(IllegalStateException.class, "flee", 0)
                .fails(IllegalStateException.class, "sell", 0, 0, 0).fails(IllegalArgumentException.class, "pay", 1)
                .fails(IllegalArgumentException.class, "days", 0).due(1, "count", 14).due(0, "count", 13);
    }

    private static void undoEachAct() {
        all("undo a test").call("tried", 0, 0).call("undo").due(100, "count", 7).due(40, "man", 0, 0).due(0, "count", 13);
        all("undo a sale").call("days", 2).call("sell", 0, 0, 50).call("undo").due(60, "rival", 0, 0).due(0, "rival", 0, 1).due(0, "man", 0, 5)
                .due(40, "count", 7);
        all("undo a part").call("part", 0, 0).call("undo").due(60, "rival", 0, 0).due(0, "rival", 0, 1).due(0, "step", 0, 3);
        new Run("undo a payment").book("chest 0;test cost 9 stops a;man trust 50 nails 0 tricks a;rival 30").call("tried", 0, 0)
                .call("sell", 0, 0, 20).due(4, "pay", 5).due(15, "count", 7).call("undo").due(9, "count", 8).due(20, "count", 7);
        new Run("a text: none are remembered").call("days", 1).book("").due(0, "undo").call("days", 1).law("", 0).due(0, "undo")
                .due(2, "count", 6).call("days", 1).wrongLaw("x", 0).wrongBook("x", 0).due(1, "undo").due(2, "count", 6);
    }

    private static void undoTwelve() {
        Run run = new Run("12 are remembered");
        for (int n = 1; n <= 15; n++) {
            run.call("days", n).due(Math.min(12, n), "count", 14);
        }
        run.due(120, "count", 6);
        for (int n = 15; n > 3; n--) {
            run.due(1, "undo").due(n * (n - 1) / 2, "count", 6);
        }
        run.due(0, "undo").due(6, "count", 6).call("days", 1).due(1, "count", 14).due(1, "undo").due(6, "count", 6).due(0, "undo");
    }

    private static void image() {
        all("image").due(0, "back").call("proof", 0).law("gain 2", 1).call("image").due(1, "count", 13).call("proof", 0).call("days", 5)
                .call("seed", 99).law("gain 3;gain 4", 2).book("bar 1;rival 4;man trust 9 nails 0 tricks a").due(1, "back")
                .due(1, "count", 13).due(0, "count", 6).due(1, "count", 5).due(2, "man", 0, 6).due(1, "count", 4).due(10, "count", 9)
                .due(1, "count", 3).due(2, "count", 1).due(50, "man", 0, 0).due(1, "seed", 5).due(0, "count", 14).due(0, "undo")
                .call("proof", 0).due(1, "back").due(50, "man", 0, 0).due(1, "seed", 1);
        all("image is kept apart").call("image").call("proof", 0).call("image").call("proof", 0).call("back").due(50, "man", 0, 0)
                .call("proof", 0).call("back").due(50, "man", 0, 0).due(1, "count", 13);
        all("undo behind the image").call("proof", 0).call("image").call("undo").due(40, "man", 0, 0).call("back").due(50, "man", 0, 0);
        all("back leaves the tape and the fault").wrongBook("x", 0).call("image").tape("bar 3").call("back").due(0, "fault")
                .due(2, "book").due(3, "count", 9).due(-1, "fault");
        new Run("back without a law").call("image").law("", 0).call("back").due(-1, "count", 5);
        all("no image of who was remembered").call("proof", 0).call("image").due(1, "count", 14).call("back").due(0, "count", 14);
        Run texts = new Run("back among texts").call("image");
        for (int n = 1; n <= 12; n++) {
            texts.tape("").due(n, "book");
        }
        texts.call("back").tape("rival 3").due(1, "book").due(3, "rival", 0, 0);
    }

    private static void count() {
        Run run = all("count").law("gain 1;gain 2;gain 3", 3).call("days", 3).call("proof", 0).call("tried", 1, 0);
        // Each man pays 30 on the first day, shows 4 on the second, gains 6 a day.
        int[] due = {1, 2, 2, 1, 1, 3, 3, 35, 0, 10, 0, 10, 129, 2, 3};
        for (int what = 0; what < due.length; what++) {
            run.due(due[what], "count", what);
        }
        run.due(-1, "count", 15).due(-1, "count", -1).due(-1, "count", Integer.MAX_VALUE).due(-1, "count", Integer.MIN_VALUE);
        run.call("flee", 0).due(57, "count", 12).call("sell", 1, 0, 0).due(0, "count", 12);
    }
}
