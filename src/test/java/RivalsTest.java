/** Promises 32 to 41: odds, bids, sales, secrets, sums, trials. */
public final class RivalsTest {
    private static final Class<IndexOutOfBoundsException> NO_SUCH = IndexOutOfBoundsException.class;
    private static final Class<IllegalArgumentException> BAD = IllegalArgumentException.class;

    public static void main(String[] args) {
        odds();
        bids();
        sold();
        secret();
        sums();
        kept();
        trials();
        spans();
        Run.close();
    }

    private static void odds() {
        new Run("odds by a third").book("luck 33").due(3300, "odds", 1, 1).due(5511, "odds", 2, 1).due(1089, "odds", 2, 2)
                .due(6992, "odds", 3, 1).due(39, "odds", 5, 5).due(10000, "odds", 3, 0).due(0, "odds", 2, 3)
                .due(10000, "odds", 0, 0).due(0, "odds", 0, 1);
        new Run("odds by a half").book("luck 50").due(8125, "odds", 5, 2).due(5000, "odds", 5, 3).due(1875, "odds", 5, 4);
        new Run("odds that are sure").book("luck 100").due(10000, "odds", 5, 5).due(0, "odds", 4, 5).due(10000, "odds", 1, 1);
        new Run("odds that are none").due(0, "odds", 5, 1).due(10000, "odds", 5, 0).fails(BAD, "odds", 6, 0).fails(BAD, "odds", -1, 0)
                .fails(BAD, "odds", 0, 6).fails(BAD, "odds", 0, -1).fails(BAD, "odds", Integer.MIN_VALUE, Integer.MAX_VALUE);
    }

    private static void bids() {
        new Run("bids").due(-1, "bids", 0).due(0, "bids", 1).book("rival 5").due(0, "bids", 0).due(0, "bids", 1)
                .book("rival 5").due(0, "bids", 0).due(5, "bids", 1).book("rival 9").due(2, "bids", 0).due(5, "bids", 1)
                .book("rival 7").due(2, "bids", 0).due(7, "bids", 1).book("rival 8;rival 0").due(8, "bids", 1);
        new Run("falling bids").book("rival 9;rival 4;rival 6").due(0, "bids", 0).due(6, "bids", 1);
        new Run("no money").book("rival 0;rival 0").due(0, "bids", 0).due(0, "bids", 1);
    }

    private static void sold() {
        new Run("sold").due(0, "sold", -1).fails(NO_SUCH, "sold", 0).fails(NO_SUCH, "sold", -2)
                .book("rival 90;rival 30").due(0, "sold", -1).due(-1, "sold", 0).due(-1, "sold", 1)
                .book("man trust 10 nails 0 tricks a;man trust 30 nails 0 tricks a").due(120, "sold", -1).due(1, "sold", 0)
                .due(0, "sold", 1).fails(NO_SUCH, "sold", 2).fails(NO_SUCH, "sold", Integer.MAX_VALUE)
                .call("flee", 1).due(30, "sold", -1).due(-1, "sold", 0).due(0, "sold", 1)
                .call("flee", 0).due(0, "sold", -1).due(-1, "sold", 1).due(90, "rival", 0, 0);
        new Run("none ahead of man 0").book("rival 60;rival 60;man trust 20 nails 0 tricks a").due(60, "sold", -1)
                .due(-1, "sold", 0).due(0, "sold", 1).book("man trust 20 nails 0 tricks a").due(0, "sold", 0).due(1, "sold", 1)
                .due(120, "sold", -1);
        new Run("no trust").book("rival 60;man trust 0 nails 0 tricks a").due(0, "sold", -1).due(-1, "sold", 0);
        new Run("six and six").book("rival 100;rival 200;rival 10;rival 50;rival 297;rival 0")
                .book("man trust 5 nails 0 tricks a;man trust 40 nails 0 tricks a;man trust 99 nails 0 tricks a;"
                        + "man trust 70 nails 0 tricks a;man trust 4 nails 0 tricks a;man trust 17 nails 0 tricks a")
                .due(657, "sold", -1).due(1, "sold", 0).due(3, "sold", 1).due(0, "sold", 2).due(5, "sold", 3).due(2, "sold", 4)
                .due(-1, "sold", 5);
    }

    private static void secret() {
        String steps = "step days 1 cost 5 shows 1;step days 1 cost 7 shows 1;step days 1 cost 7 shows 1";
        new Run("secret").due(0, "secret").book("rival 100;rival 100;rival 100;rival 100").due(0, "secret").book(steps)
                .due(-1, "secret").call("part", 0, 3).call("part", 1, 3).due(-1, "secret").call("part", 2, 1).due(10, "secret")
                .call("part", 0, 0).call("part", 1, 0).due(3, "secret").call("part", 2, 3).due(8, "secret");
        new Run("without rivals").book(steps).due(-1, "secret");
        new Run("by a man").book(steps + ";rival 5;bar 0;man trust 5 nails 0 tricks a").call("days", 3).call("sell", 0, 0, 0)
                .due(1, "secret").due(7, "rival", 0, 1);
    }

    private static void sums() {
        new Run("mates").due(0, "mates").book("man trust 9 nails 0 tricks ab;man trust 9 nails 0 tricks ba;man trust 9 nails 0 tricks c")
                .due(1, "mates").book("man trust 9 nails 0 tricks ab").due(3, "mates").call("days", 1).due(15, "kept", 1).due(3, "mates");
        new Run("knows").due(0, "knows", 0).book("man trust 9 nails 0 tricks ab;man trust 9 nails 0 tricks f;man trust 9 nails 0 tricks bf")
                .due(1, "knows", 0).due(5, "knows", 1).due(0, "knows", 2).due(6, "knows", 5).call("days", 1).due(7, "kept", 1)
                .due(6, "knows", 5).fails(BAD, "knows", 6).fails(BAD, "knows", -1).fails(BAD, "knows", 32);
        new Run("dearest").due(-1, "dearest").book("step days 1 cost 5 shows 1").due(0, "dearest")
                .book("step days 1 cost 7 shows 1;step days 1 cost 7 shows 1").due(1, "dearest")
                .book("step days 1 cost 99 shows 1").due(3, "dearest");
        new Run("dearest of no cost").book("step days 1 cost 0 shows 1").due(0, "dearest");
    }

    private static void kept() {
        new Run("kept").due(0, "kept", 0).due(0, "kept", 1).book("man trust 10 nails 0 tricks a;man trust 30 nails 0 tricks a;"
                + "man trust 30 nails 0 tricks a;rival 5;man trust 30 nails 0 tricks a").due(15, "kept", 0).due(0, "kept", 1)
                .call("days", 1).due(14, "kept", 0).due(1, "kept", 1).call("flee", 1).due(12, "kept", 0).due(1, "kept", 1)
                .call("sell", 2, 0, 1).due(8, "kept", 0).due(1, "kept", 1).call("days", 20).due(0, "kept", 0).due(9, "kept", 1);
    }

    private static void trials() {
        // Of seed 1 the draws are 38, 58, 13, 15, 51, 27; of seed 2 they are 8, 17, 39, 14, 37, 95.
        new Run("trial").book("luck 39;chest 100;man trust 12 nails 0 tricks a;man trust 50 nails 0 tricks a").due(100, "trial", 0, 0)
                .due(2, "trial", 0, 1).due(150, "trial", 1, 0).due(150, "trial", 2, 0).due(200, "trial", 3, 0)
                .due(300, "trial", 6, 0).due(2, "trial", 2, 1).due(1, "trial", 3, 1).due(0, "trial", 41, 1)
                .due(100, "count", 7).due(0, "count", 6).due(3, "kept", 0).due(0, "count", 14).due(1, "seed", 2)
                .due(300, "trial", 5, 0).due(300, "trial", 6, 0).due(2, "seed", 2).fails(BAD, "trial", -1, 0)
                .fails(BAD, "trial", 201, 1).call("trial", 200, 0);
        new Run("trial with costs").book("step days 2 cost 30 shows 1;chest 40;man trust 50 nails 0 tricks a").due(10, "trial", 1, 0)
                .due(10, "trial", 200, 0).due(0, "trial", 200, 1);
    }

    private static void spans() {
        // The first draws of seeds 1 to 6 are 38, 8, 47, 17, 55, 26; the second 58, 17, 7, 66, 57, 15.
        String man = ";chest 100;bar 0;man trust 50 nails 0 tricks a";
        new Run("span").book("luck 20" + man).due(100, "span", 0, 0).due(100, "span", 0, 1).due(100, "span", 1, 0)
                .due(150, "span", 1, 1).due(100, "span", 2, 0).due(200, "span", 2, 1).due(1, "seed", 77).due(200, "span", 2, 1)
                .due(77, "seed", 1).fails(BAD, "span", -1, 0).fails(BAD, "span", 201, 1).call("span", 200, 1).due(100, "count", 7);
        new Run("seeds 1 to 6 alone").book("luck 9" + man).due(150, "span", 1, 1).book("luck 8").due(100, "span", 1, 1)
                .book("luck 55").due(100, "span", 1, 0).book("luck 56").due(150, "span", 1, 0);
        // Of six draws of seed 1 all are below 59; no other seed has so many.
        new Run("seed 1 has the most").book("luck 59" + man).due(400, "span", 6, 1);
        new Run("span without men").book("luck 100").due(500, "span", 200, 0).due(500, "span", 200, 1);
    }
}
