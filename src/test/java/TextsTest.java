/** Promises 1 to 6: a new object, the tape, the book, the law, the first wrong byte. */
public final class TextsTest {
    private static final Class<IllegalArgumentException> BAD = IllegalArgumentException.class;
    private static final String STEP = "step days 1 cost 1 shows 1";

    public static void main(String[] args) {
        newObject();
        feedAndEnd();
        bookIsRead();
        bookLimits();
        bookFaults();
        lawIsRead();
        lawHolds();
        lawLimits();
        lawFaults();
        faultIsOfTheLatest();
        Run.close();
    }

    private static void newObject() {
        int[] first = {0, 0, 0, 0, 0, -1, 0, 500, 0, 10, 0, 10, 0, 0, 0};
        Run run = new Run("new");
        for (int what = 0; what < first.length; what++) {
            run.due(first[what], "count", what);
        }
        run.due(0, "kept", 0).due(1, "seed", 1).due(-1, "fault").due(0, "undo").due(0, "back").due(1, "end", 0).due(0, "end", 1);
    }

    private static void feedAndEnd() {
        Run run = new Run("feed");
        for (int n = 1; n <= 20; n++) {
            run.due(20 * n, "feed", 0x62617220, 0x37202020, 0, 0, 0);
        }
        run.due(-1, "feed", 1, 2, 3, 4, 5).due(0, "end", 401).due(1, "end", 400).due(0, "end", -1);
        run.due(1, "end", 5).due(0, "end", 6).due(1, "book").due(7, "count", 9).due(0, "end", 1).due(1, "end", 0);
        run.due(20, "feed", 0x62617220, 0x38000000, 0, 0, 0).due(1, "end", 5).due(25, "feed", 0x39ff0000, 0, 0, 0, 0)
                .due(1, "end", 6).due(2, "book").due(89, "count", 9);
        run.tape("x".repeat(380)).due(400, "feed", 0, 0, 0, 0, 0).due(-1, "feed", 0, 0, 0, 0, 0);
        run.due(1, "end", 381).due(-1, "feed", 0, 0, 0, 0, 0).due(1, "end", 380).due(400, "feed", 0, 0, 0, 0, 0);
        run.fails(BAD, "law").due(0, "end", 1);
    }

    private static void bookIsRead() {
        new Run("one of each").book("step days 30 cost 99 shows 50;man trust 99 nails 9 tricks fa;test cost 99 stops edcb;"
                + "rival 999;chest 999;bar 99;luck 100;proof 50")
                .due(1, "count", 0).due(1, "count", 1).due(1, "count", 2).due(1, "count", 3).due(1, "count", 4)
                .due(999, "count", 7).due(99, "count", 9).due(100, "count", 10).due(50, "count", 11)
                .due(30, "step", 0, 0).due(99, "step", 0, 1).due(50, "step", 0, 2).due(99, "man", 0, 0)
                .due(9, "man", 0, 1).due(33, "man", 0, 2).due(99, "test", 0, 0).due(30, "test", 0, 1)
                .due(999, "rival", 0, 0).due(0, "rival", 0, 1).due(-1, "fault");
        new Run("the least").book("step days 1 cost 0 shows 0;man trust 0 nails 0 tricks a;test cost 0 stops f;rival 0;"
                + "chest 0;bar 0;luck 0;proof 0")
                .due(1, "step", 0, 0).due(0, "step", 0, 1).due(0, "man", 0, 0).due(0, "man", 0, 1).due(0, "test", 0, 0)
                .due(0, "rival", 0, 0).due(0, "count", 7).due(0, "count", 9).due(0, "count", 10).due(0, "count", 11);
        new Run("blanks").book("  bar  7 ;  step   days 2cost 3shows4  ").due(7, "count", 9).due(2, "step", 0, 0)
                .due(3, "step", 0, 1).due(4, "step", 0, 2).book("bar8;luck009").due(8, "count", 9).due(9, "count", 10);
        new Run("no line").tape("").due(1, "book").tape("    ").due(2, "book").due(2, "count", 4);
        new Run("one behind another").book("chest 5;bar 1;chest 6").due(6, "count", 7).book("bar 2;man trust 1 nails 1 tricks a")
                .due(6, "count", 7).due(2, "count", 9).book("man trust 2 nails 2 tricks b").due(2, "count", 1)
                .due(1, "man", 0, 0).due(2, "man", 1, 0).due(3, "count", 4);
        new Run("a wrong text leaves nothing").book("bar 5;chest 8").call("days", 1).tape("bar 6;chest 9;rival 3;" + STEP + ";x")
                .fails(BAD, "book").due(5, "count", 9).due(8, "count", 7).due(0, "count", 3).due(0, "count", 0)
                .due(1, "count", 4).due(1, "count", 14).due(0, "end", 1).book("rival 7").due(0, "count", 14)
                .due(7, "rival", 0, 0).due(1, "count", 3);
        new Run("a step more for who had them all").book(STEP + ";man trust 50 nails 0 tricks a").call("days", 1)
                .due(1, "man", 0, 3).due(0, "done", 0).book("step days 2 cost 7 shows 0").due(2, "done", 0)
                .due(7, "man", 0, 7).call("days", 1).due(1, "man", 0, 4);
    }

    private static void bookLimits() {
        String lines = "bar 1;bar 2;bar 3;bar 4;bar 5;bar 6;bar 7;bar 8;bar 9;bar 10;bar 11;bar 12;bar 13;bar 14";
        new Run("14 lines").book(lines).due(14, "count", 9).wrongBook(lines + "; bar 15", lines.length() + 2)
                .wrongBook(lines + ";", lines.length() + 1).wrongBook(lines + " bar", lines.length() + 1)
                .due(1, "count", 4);
        Run run = new Run("8 steps");
        for (int i = 0; i < 8; i++) {
            run.book(STEP);
        }
        run.due(8, "count", 0).wrongBook("bar 1; " + STEP, 7).due(10, "count", 9).due(8, "count", 4);
        limit("man", "man trust 1 nails 1 tricks a", 1);
        limit("test", "test cost 1 stops a", 2);
        limit("rival", "rival 1", 3);
        Run texts = new Run("12 texts");
        for (int n = 1; n <= 12; n++) {
            texts.tape("bar " + n).due(n, "book");
        }
        texts.call("days", 1).tape("bar 13").fails(UnsupportedOperationException.class, "book").due(12, "count", 9)
                .due(-1, "fault").due(12, "count", 4).due(1, "count", 14).due(0, "end", 1)
                .wrongBook("bar 13 13", 7).tape("").fails(UnsupportedOperationException.class, "book").due(-1, "fault");
    }

    private static void limit(String name, String line, int what) {
        Run run = new Run("6 of " + name).book(line + ";" + line + ";" + line).book(line + ";" + line + ";" + line);
        run.due(6, "count", what).wrongBook(" " + line, 1).due(6, "count", what).due(2, "count", 4);
    }

    private static void bookFaults() {
        Run run = new Run("book faults");
        run.wrongBook(";", 0).wrongBook("bar 1;", 6).wrongBook("bar 1;  ", 8).wrongBook("bar 1;;bar 2", 6);
        run.wrongBook("Bar 1", 0).wrongBook(" \tbar 1", 1).wrongBook("bars 1", 0).wrongBook("gain 1", 0).wrongBook("7", 0);
        run.wrongBook("bar", 3).wrongBook("bar  ", 5).wrongBook("bar x", 4).wrongBook("bar 1 2", 6).wrongBook("bar 1x", 5);
        run.wrongBook("bar 0001", 4).wrongBook("bar 100", 4).wrongBook("bar -1", 4).wrongBook("bar 1" + (char) 233, 5);
        run.wrongBook("luck 101", 5).wrongBook("proof 51", 6).wrongBook("chest 1000", 6).wrongBook("rival 1000", 6);
        run.wrongBook("step day 1 cost 1 shows 1", 5).wrongBook("step days 0 cost 1 shows 1", 10);
        run.wrongBook("step days 31 cost 1 shows 1", 10).wrongBook("step days 1 shows 1", 12);
        run.wrongBook("step days 1 cost 100 shows 1", 17).wrongBook("step days 1 cost 1 shows 51", 25);
        run.wrongBook("step days 1 cost 1", 18).wrongBook("stepdays 1 cost 1 shows 1", 0).wrongBook("step 1", 5);
        run.wrongBook("man trust 100 nails 1 tricks a", 10).wrongBook("man trust 1 nails 10 tricks a", 18);
        run.wrongBook("man trust 1 nails 1 tricks ", 27).wrongBook("man trust 1 nails 1 tricks 1", 27);
        run.wrongBook("man trust 1 nails 1 tricks abca", 27).wrongBook("man trust 1 nails 1 tricks abg", 27);
        run.wrongBook("man trust 1 nails 1 tricks ab c", 30).wrongBook("man trust 1 nails 1 trick a", 20);
        run.wrongBook("test cost 100 stops a", 10).wrongBook("test cost 1 stops z", 18).wrongBook("test stops a", 5);
        run.wrongBook("test cost 1 stops {", 18).wrongBook("test cost 1 stops `", 18);
        run.wrongBook("rival", 5).wrongBook("chest ", 6).wrongBook("luck", 4).wrongBook("proof", 5).wrongBook("test cost 1 stops", 17);
        run.wrongBook("barz 1", 0).wrongBook("bar 1z", 5).wrongBook("man trust 1 nails 1 tricks az", 27).wrongBook("man", 3);
        run.due(0, "count", 4).due(-1, "count", 5);
    }

    private static void lawIsRead() {
        new Run("law").due(-1, "count", 5).law("gain 1;doubt 30 if hot", 2).due(2, "count", 5).law("", 0).due(0, "count", 5)
                .law("   ", 0).law(" gain0;doubt  5if done ; gain 007 ", 3).due(3, "count", 5).due(-1, "fault");
        new Run("a wrong law leaves the one before").book("man trust 50 nails 0 tricks a").law("gain 4", 1).call("days", 1)
                .tape("gain 5;gain").fails(BAD, "law").due(11, "fault").due(4, "man", 0, 6).due(1, "count", 5)
                .due(1, "count", 14).due(0, "end", 1).law("gain 6", 1).due(6, "man", 0, 6).due(0, "count", 14);
    }

    private static void holds(String when, boolean due) {
        // Man 1 has trust 50, 3 nails, is done (the one step is behind him), on day 2; debts are 19.
        new Run("if " + when).book("chest 0;bar 0;step days 2 cost 10 shows 1;man trust 50 nails 0 tricks a;"
                + "man trust 49 nails 3 tricks b").law("", 0).book("chest 1").call("days", 2).due(19, "count", 8)
                .law("gain 7 if " + when, 1).due(due ? 7 : 0, "man", 1, 6);
    }

    private static void lawHolds() {
        holds("done", true);
        holds("hot", false);
        holds("not hot", true);
        holds("not not done", true);
        holds("trust>49", true);
        holds("trust>50", false);
        holds("trust<51", true);
        holds("trust<50", false);
        holds("nails<4 and nails>2", true);
        holds("man>0 and man<2", true);
        holds("at>0 and at<2", true);
        holds("heated<1", true);
        holds("heated>0", false);
        holds("debts>0 and debts<2", true);
        holds("day>1 and day<3", true);
        holds("trust+nails+1>53", true);
        holds("trust+nails+1>54", false);
        holds("54<man+trust+nails", false);
        holds("53<man+trust+nails", true);
        holds("999>998", true);
        holds("done or hot and hot", true);
        holds("(done or hot) and hot", false);
        holds("hot and hot or done", true);
        holds("not done or done", true);
        holds("not (done or done)", false);
        holds("not hot and not hot", true);
        holds("hot or hot or trust>49", true);
        holds("done and done and hot", false);
        holds("((((((done))))))", true);
        holds("not not not not not not hot", false);
        holds("not(not(not(hot)))", true);
        new Run("sum of lines").book("man trust 50 nails 0 tricks a").due(-1, "man", 0, 6).law("", 0).due(0, "man", 0, 6)
                .law("gain 5;doubt 2;gain 30 if hot;doubt 30 if trust<50;gain 1 if done", 5).due(4, "man", 0, 6)
                .law("doubt 30;doubt 30", 2).due(-60, "man", 0, 6).call("days", 1).due(0, "man", 0, 0);
        new Run("hot").book("step days 2 cost 0 shows 0;man trust 50 nails 0 tricks a").law("gain 3 if hot;doubt 1 if done", 2)
                .due(0, "man", 0, 6).call("days", 1).due(3, "man", 0, 6).due(53, "man", 0, 0).call("days", 1)
                .due(-1, "man", 0, 6).due(52, "man", 0, 0);
    }

    private static void lawLimits() {
        String lines = "gain 1;gain 1;gain 1;gain 1;gain 1;gain 1;gain 1;gain 1;gain 1;gain 1;gain 1;gain 1";
        new Run("12 lines").law(lines, 12).wrongLaw(lines + ";  gain 1", lines.length() + 3).wrongLaw(lines + ";", lines.length() + 1);
        Run run = new Run("6 deep").law("gain 1 if ((((((hot))))))", 1).law("gain 1 if not(not(not(hot)))", 1)
                .law("gain 1 if (hot) and (hot) and (hot) and (hot) and not hot and not hot or ((((((hot))))))", 1);
        run.wrongLaw("gain 1 if (((((((hot)))))))", 16).wrongLaw("gain 1 if not(not(not( not hot)))", 23);
        run.wrongLaw("gain 1 if ((((((not hot))))))", 16).wrongLaw("gain 1 if not not not not not not (hot)", 34);
        run.wrongLaw("gain 1 if ((((((hot or (hot)))))))", 23);
    }

    private static void lawFaults() {
        Run run = new Run("law faults");
        run.wrongLaw("gain 31", 5).wrongLaw("doubt 31", 6).wrongLaw("gain 0001", 5).wrongLaw("gain", 4).wrongLaw("gain x", 5);
        run.wrongLaw("bar 1", 0).wrongLaw(";", 0).wrongLaw("gain 1;", 7).wrongLaw("gain 1 gain 1", 7).wrongLaw("gain 1 if", 9);
        run.wrongLaw("gain 1 if if", 10).wrongLaw("gain 1 if ;", 10).wrongLaw("gain 1 if hot hot", 14).wrongLaw("gain 1 if hott", 10);
        run.wrongLaw("gain 1 if hot and", 17).wrongLaw("gain 1 if hot or ", 17).wrongLaw("gain 1 if hot and or", 18);
        run.wrongLaw("gain 1 if (hot", 14).wrongLaw("gain 1 if hot)", 13).wrongLaw("gain 1 if ()", 11).wrongLaw("gain 1 if (hot;", 14);
        run.wrongLaw("gain 1 if not", 13).wrongLaw("gain 1 if not and", 14).wrongLaw("gain 1 if trust", 15);
        run.wrongLaw("gain 1 if trust and hot", 16).wrongLaw("gain 1 if trust = 5", 16).wrongLaw("gain 1 if trust < 5 < 6", 20);
        run.wrongLaw("gain 1 if 1000 < 5", 10).wrongLaw("gain 1 if 5 < 1000", 14).wrongLaw("gain 1 if 5 + < 6", 14);
        run.wrongLaw("gain 1 if 5 < hot", 14).wrongLaw("gain 1 if (5) < 6", 12).wrongLaw("gain 1 if hot + 1 < 2", 14);
        run.wrongLaw("gain 1 if bar < 6", 10).wrongLaw("gain 1 if 5 < 6 +", 17).wrongLaw("gain 1 if 5 6", 12).wrongLaw("GAIN 1", 0);
        run.due(-1, "count", 5);
    }

    private static void faultIsOfTheLatest() {
        new Run("fault").wrongBook("bar 1 1", 6).due(6, "fault").wrongLaw("gain x", 5).due(5, "fault").call("image").call("days", 1)
                .call("undo").due(5, "fault").call("back").due(5, "fault").tape("\1\2\3").fails(BAD, "ask").due(5, "fault")
                .law("gain 1", 1).due(-1, "fault").wrongBook("?", 0).book("").due(-1, "fault");
    }
}
