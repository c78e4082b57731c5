/** The edges that the document names for the tape, the book, the law and the first wrong byte: promises 1 to 6. */
public final class EdgesOfTextsTest {
    private static final Class<IllegalArgumentException> BAD = IllegalArgumentException.class;
    private static final Class<UnsupportedOperationException> FULL = UnsupportedOperationException.class;
    private static final Class<IndexOutOfBoundsException> NO_SUCH = IndexOutOfBoundsException.class;
    private static final int LEAST = Integer.MIN_VALUE;
    private static final int MOST = Integer.MAX_VALUE;

    private static final String STEP = "step days 1 cost 1 shows 1";
    private static final String MAN = "man trust 50 nails 1 tricks a";
    private static final String TEST = "test cost 1 stops a";
    private static final String RIVAL = "rival 20";

    public static void main(String[] args) {
        withoutMen();
        feed();
        end();
        bookUsesTheTapeUp();
        twelveTexts();
        fourteenLines();
        tooManyOfAKind();
        numbersOfTheBook();
        numbersOfTheLaw();
        tricks();
        words();
        blanks();
        moreMustCome();
        nothingStays();
        lawUsesTheTapeUp();
        twelveLines();
        sixDeep();
        facts();
        fault();
        Run.close();
    }

    private static void withoutMen() {
        Run run = new Run("1: a prince without men");
        for (int none : new int[] {0, -1, 5, LEAST, MOST}) {
            for (String call : new String[] {"step", "man", "test", "rival", "tried", "longest", "part"}) {
                run.fails(NO_SUCH, call, none, 0);
            }
            for (String call : new String[] {"needs", "stopped", "cheapest", "rests", "led"}) {
                run.fails(NO_SUCH, call, none, 1);
            }
            for (String call : new String[] {"proof", "flee", "lives", "done", "fewest", "slips"}) {
                run.fails(NO_SUCH, call, none);
            }
            run.fails(NO_SUCH, "sell", none, 0, 0).fails(NO_SUCH, "ahead", none, 0, 0);
        }
        run.due(0, "sold", -1).due(0, "secret").due(0, "mates").due(-1, "dearest").due(-1, "bids", 0).due(0, "bids", 1);
        run.due(500, "chest", 200).due(0, "owes", 200).due(500, "trial", 200, 0).due(0, "trial", 200, 1).due(500, "span", 200, 1);
    }

    private static void feed() {
        Run order = new Run("2: of each number the highest first");
        // "chest 123 ; bar   45"
        order.due(20, "feed", 0x63686573, 0x74203132, 0x33203b20, 0x62617220, 0x20203435).due(1, "book")
                .due(123, "count", 7).due(45, "count", 9).due(0, "end", 1);
        Run full = new Run("2: none come, if it would have more than 400");
        for (int n = 1; n <= 20; n++) {
            full.due(20 * n, "feed", 0x20202020, 0x20202020, 0x20202020, 0x20202020, 0x20202020);
        }
        full.due(-1, "feed", 1, 1, 1, 1, 1).due(0, "end", 401).due(1, "end", 400).due(1, "book").due(-1, "fault");
        Run nearly = new Run("2: 381 and 20 are more than 400").tape(" ".repeat(381)).due(-1, "feed", 0, 0, 0, 0, 0).due(0, "end", 382)
                .due(1, "end", 380);
        nearly.due(400, "feed", 0x20202020, 0x20202020, 0x20202020, 0x20202020, 0x20202021).fails(BAD, "book").due(399, "fault");
        new Run("2: bytes above 127").due(20, "feed", -1, -1, -1, -1, -1).fails(BAD, "book").due(0, "fault")
                .due(20, "feed", 0x626172a0, 0, 0, 0, 0).fails(BAD, "book").due(3, "fault");
    }

    private static void end() {
        Run run = new Run("3: false, and nothing happens, if it has fewer, or n is below 0");
        run.due(0, "end", 1).due(0, "end", -1).due(1, "end", 0).due(0, "end", MOST).due(0, "end", LEAST);
        run.due(20, "feed", 0x62617220, 0x31323334, 0x35363738, 0, 0);
        run.due(0, "end", 21).due(0, "end", -1).due(0, "end", LEAST).due(1, "end", 20).due(1, "end", 6).due(0, "end", 7);
        run.due(1, "book").due(12, "count", 9).due(0, "end", 1).due(1, "end", 0);
        new Run("3: the first n alone").tape("bar 123").due(1, "end", 5).due(1, "end", 5).due(25, "feed", 0x20202020, 0, 0, 0, 0)
                .due(1, "end", 9).due(1, "book").due(1, "count", 9);
    }

    private static void bookUsesTheTapeUp() {
        new Run("4: uses the tape up").tape("bar 1").due(1, "book").due(0, "end", 1).due(2, "book").tape("bar x").fails(BAD, "book")
                .due(0, "end", 1).due(1, "end", 0).due(20, "feed", 0x62617220, 0x35202020, 0x20202020, 0x20202020, 0x20202020)
                .due(3, "book").due(5, "count", 9);
    }

    private static void twelveTexts() {
        Run run = new Run("4: there are 12");
        for (int n = 1; n <= 12; n++) {
            run.tape(n % 2 == 0 ? "" : "bar " + n).due(n, "book");
        }
        run.due(12, "count", 4).due(11, "count", 9).call("days", 1).wrongBook("bar", 3);
        run.tape("").failsAndLeaves(FULL, "book").due(-1, "fault").tape("bar 3;" + MAN).failsAndLeaves(FULL, "book").due(0, "end", 1);
        run.tape("bar 3;").failsAndLeaves(BAD, "book").due(6, "fault").due(0, "end", 1).due(1, "undo").law("gain 1", 1).due(12, "count", 4);
    }

    private static String rowOf(String line, int much) {
        StringBuilder text = new StringBuilder(line);
        for (int i = 1; i < much; i++) {
            text.append(';').append(line);
        }
        return text.toString();
    }

    private static void fourteenLines() {
        String lines = rowOf("luck 7", 14);
        Run run = new Run("4: 14 lines at most").book(lines).due(7, "count", 10);
        for (String more : new String[] {"luck 8", "x", "7", ";", "(", ""}) {
            run.wrongBook(lines + ";" + more, lines.length() + 1).wrongBook(lines + " ; " + more, lines.length() + 3);
        }
        run.wrongBook(lines + "luck 8", lines.length()).wrongBook(lines + " 8", lines.length() + 1).due(1, "count", 4);
    }

    private static void tooManyOfAKind() {
        tooMany(STEP, 8, 0);
        tooMany(MAN, 6, 1);
        tooMany(TEST, 6, 2);
        tooMany(RIVAL, 6, 3);
    }

    private static void tooMany(String line, int most, int what) {
        String all = rowOf(line, most);
        Run run = new Run("terms: " + most + " at most of " + line).wrongBook(all + "; " + line, all.length() + 2).due(0, "count", what);
        run.book(all).due(most, "count", what).wrongBook(line, 0).wrongBook("bar 1;" + line, 6).wrongBook("bar 1;" + line.split(" ")[0], 6);
        run.due(most, "count", what).due(10, "count", 9).due(1, "count", 4).book("bar 2").due(2, "count", 4);
        Run apart = new Run("terms: over several texts");
        for (int n = 1; n <= most; n++) {
            apart.book(line).due(n, "count", what);
        }
        apart.wrongBook("  " + line, 2).due(most, "count", what);
    }

    private static void numbersOfTheBook() {
        numberIn("book", "step days ", 1, 30, " cost 1 shows 1", "step", 0);
        numberIn("book", "step days 1 cost ", 0, 99, " shows 1", "step", 1);
        numberIn("book", "step days 1 cost 1 shows ", 0, 50, "", "step", 2);
        numberIn("book", "man trust ", 0, 99, " nails 1 tricks a", "man", 0);
        numberIn("book", "man trust 1 nails ", 0, 9, " tricks a", "man", 1);
        numberIn("book", "test cost ", 0, 99, " stops a", "test", 0);
        numberIn("book", "rival ", 0, 999, "", "rival", 0);
        numberIn("book", "chest ", 0, 999, "", "count", 7);
        numberIn("book", "bar ", 0, 99, "", "count", 9);
        numberIn("book", "luck ", 0, 100, "", "count", 10);
        numberIn("book", "proof ", 0, 50, "", "count", 11);
    }

    /** The least and the most of a number hold; what is beyond, of more digits or no number is wrong at its begin. */
    private static void numberIn(String kind, String ahead, int least, int most, String behind, String call, int what) {
        Run run = new Run("terms: a number behind '" + ahead + "'");
        String[] wrong = {String.valueOf(most + 1), "1000", "0001", "0000", "00" + most + "00", "9999999999", "-1", "+1", "a", ";", "(1)"};
        for (String number : wrong) {
            run.tape(ahead + number + behind).fails(BAD, kind).due(ahead.length(), "fault");
        }
        if (least > 0) {
            run.tape(ahead + (least - 1) + behind).fails(BAD, kind).due(ahead.length(), "fault");
        }
        run.tape(ahead).fails(BAD, kind).due(ahead.length(), "fault");
        int of = -1;
        for (String number : new String[] {String.valueOf(least), "00" + least, String.valueOf(most)}) {
            of++;
            run.tape(ahead + number + behind).due(of + 1, kind).due(-1, "fault");
            if (call.equals("count")) {
                run.due(Integer.parseInt(number), call, what);
            } else {
                run.due(Integer.parseInt(number), call, of, what);
            }
        }
    }

    private static void numbersOfTheLaw() {
        for (String word : new String[] {"gain ", "doubt "}) {
            int sign = word.equals("gain ") ? 1 : -1;
            Run run = new Run("5: N 0 to 30 behind " + word).book(MAN).law(word + "0", 1).due(0, "man", 0, 6).law(word + "000", 1)
                    .law(word + "30", 1).due(30 * sign, "man", 0, 6).law(word + "030", 1).due(30 * sign, "man", 0, 6);
            for (String number : new String[] {"31", "99", "0030", "-1", "man", "", "("}) {
                run.wrongLaw(word + number, word.length());
            }
            run.due(30 * sign, "man", 0, 6);
        }
        Run run = new Run("5: all numbers are of 1 to 3 digits").book(MAN).law("gain 1 if 999 > 998 and 0 < 001 and 000 < 1", 1)
                .due(1, "man", 0, 6).law("gain 1 if 999 < 999 or 0 > 0 or 7 < 007", 1).due(0, "man", 0, 6);
        run.wrongLaw("gain 1 if 1000 < 5", 10).wrongLaw("gain 1 if 0001 < 5", 10).wrongLaw("gain 1 if 5 < 1000", 14);
        run.wrongLaw("gain 1 if 5 + 1000 < 5", 14).wrongLaw("gain 1 if 5 < 5 + 0000", 18);
    }

    private static void tricks() {
        for (String ahead : new String[] {"man trust 1 nails 1 tricks ", "test cost 1 stops "}) {
            Run run = new Run("terms: letters a to f, none twice").book(ahead + "a").book(ahead + "f").book(ahead + "fedcba");
            for (String word : new String[] {"g", "z", "aa", "abcdefa", "abcdefg", "ga", "abb", "fabf", "A", "1", "", "("}) {
                run.wrongBook(ahead + word, ahead.length());
            }
            run.wrongBook(ahead + "a1", ahead.length() + 1).wrongBook(ahead + "aB", ahead.length() + 1);
            run.wrongBook(ahead + "a b", ahead.length() + 2);
            String call = ahead.startsWith("man") ? "man" : "test";
            int what = ahead.startsWith("man") ? 2 : 1;
            run.due(1, call, 0, what).due(32, call, 1, what).due(63, call, 2, what).due(3, "count", call.equals("man") ? 1 : 2);
        }
    }

    private static void words() {
        Run run = new Run("terms: words are as long as a to z go on").wrongBook("barx 5", 0).wrongBook("bar5x", 4).wrongBook("ba r 5", 0);
        run.wrongBook("mantrust 1 nails 1 tricks a", 0).wrongBook("man trust 1 nails 1 tricksa", 20).wrongBook("test cost 1 stopsa", 12);
        run.wrongBook("Bar 5", 0).wrongBook("bar 5 ; BAR 6", 8).wrongBook("rival 5rival 6", 7).wrongBook("step cost 1 days 1 shows 1", 5);
        run.wrongBook("steps days 1 cost 1 shows 1", 0).wrongBook("gain 1", 0).wrongBook("bar 5,bar 6", 5).wrongBook("bar 5 bar 6", 6);
        run.book("bar5;luck6;step days7cost8shows9").due(5, "count", 9).due(6, "count", 10).due(7, "step", 0, 0).due(9, "step", 0, 2);
        Run law = new Run("5: words are as long as a to z go on").wrongLaw("gain 1 ifhot", 7).wrongLaw("gain 1 if nothot", 10);
        law.wrongLaw("gain 1 if hotand hot", 10).wrongLaw("gain 1 if hot andhot", 14).wrongLaw("gains 1", 0).wrongLaw("gain 1 iff hot", 7);
        law.wrongLaw("gain 1 if trusts<1", 10).wrongLaw("gain 1 if HOT", 10).wrongLaw("bar 1", 0).wrongLaw("gain 1 or hot", 7);
        law.law("gain1if hot and(done)or not(5<trust+6)", 1).law("doubt 1if 1<2and 2>1or hot", 1);
    }

    private static void blanks() {
        Run run = new Run("terms: blanks, also ahead and behind").book("   bar   5   ;   luck   6   ").due(5, "count", 9).due(6, "count", 10);
        run.book(" ".repeat(395) + "bar 9").due(9, "count", 9).book("bar 8" + " ".repeat(395)).due(8, "count", 9);
        run.wrongBook(" ".repeat(396) + "bar ", 400).wrongBook(" ".repeat(399) + "b", 399).wrongBook("bar" + " ".repeat(397), 400);
        for (int sign : new int[] {0, 9, 10, 13, 31, 33, 160, 255}) {
            run.wrongBook("bar" + (char) sign + "5", 3).wrongBook((char) sign + "bar 5", 0).wrongBook("bar 5" + (char) sign, 5);
        }
        Run none = new Run("terms: blanks alone have no line").tape(" ".repeat(400)).due(1, "book").tape(" ").due(2, "book").tape("")
                .due(3, "book").due(3, "count", 4).tape(" ".repeat(400)).due(0, "law").due(0, "count", 5).tape("").due(0, "law").due(-1, "fault");
        none.wrongBook(" ; ", 1).wrongLaw(" ; ", 1).wrongBook(";", 0).wrongLaw(";", 0);
    }

    /** Each begin of a text: wrong at its length where more must come, at a word that is cut, right where it may end. */
    private static void moreMustCome() {
        beginsOf("book", "man trust 12 nails 3 tricks ab",
                "-0 0 3 4 4 4 4 4 9 10 11 12 13 13 13 13 13 18 19 20 21 21 21 21 21 21 27 28 - -");
        beginsOf("book", "step days 3 cost 4 shows 5;", "-0 0 0 4 5 5 5 5 9 10 11 12 12 12 12 16 17 18 19 19 19 19 19 24 25 - 27");
        beginsOf("book", "test cost 1 stops a ; bar 3", "-0 0 0 4 5 5 5 5 9 10 11 12 12 12 12 12 17 18 - - 21 22 22 22 25 26 -");
        beginsOf("law", "gain 3 if not(hot or 1<at)", "-0 0 0 4 5 - - 7 9 10 10 10 13 14 14 14 17 18 18 20 21 22 23 23 25 -");
    }

    private static void beginsOf(String kind, String text, String due) {
        String[] places = due.replace("-0", "- 0").split(" ");
        Run run = new Run("terms: the text's length, if more must come");
        Run.check("places for each begin of " + text, String.valueOf(places.length), String.valueOf(text.length() + 1));
        for (int n = 0; n < places.length; n++) {
            run.tape(text.substring(0, n));
            if (places[n].equals("-")) {
                run.call(kind).due(-1, "fault");
            } else {
                run.fails(BAD, kind).due(Integer.parseInt(places[n]), "fault");
            }
        }
    }

    private static void nothingStays() {
        String all = STEP + ";" + MAN + ";" + TEST + ";" + RIVAL + ";chest 1;bar 2;luck 3;proof 4";
        Run run = new Run("terms: of a wrong text nothing stays").call("days", 1);
        run.tape(all + ";").failsAndLeaves(BAD, "book").tape(all + ";chest 5 5").failsAndLeaves(BAD, "book");
        run.tape("bar 99;chest 1000").failsAndLeaves(BAD, "book").tape("bar").failsAndLeaves(BAD, "book").due(1, "count", 14);
        run.book("step days 9 cost 9 shows 9;man trust 9 nails 9 tricks f;test cost 9 stops f;rival 9").due(9, "step", 0, 0)
                .due(32, "man", 0, 2).due(32, "test", 0, 1).due(9, "rival", 0, 0).due(500, "count", 7).due(10, "count", 9);
        run.tape(all + ";man").failsAndLeaves(BAD, "book");
        Run law = new Run("5: of a wrong text nothing stays").book(MAN).tape("gain 9;gain").failsAndLeaves(BAD, "law").due(-1, "count", 5)
                .due(-1, "man", 0, 6).law("gain 2", 1).call("days", 1).tape("gain 9;gain 9 if").failsAndLeaves(BAD, "law");
        law.due(2, "man", 0, 6).due(1, "undo").due(0, "count", 6);
    }

    private static void lawUsesTheTapeUp() {
        new Run("5: uses the tape up").tape("gain 1").due(1, "law").due(0, "end", 1).due(0, "law").due(0, "count", 5).tape("gain x")
                .fails(BAD, "law").due(0, "end", 1).due(0, "count", 5).tape("gain 2;gain 3").due(2, "law").due(2, "count", 5);
    }

    private static void twelveLines() {
        String lines = rowOf("gain 30", 12);
        Run run = new Run("5: 12 lines at most").book("man trust 0 nails 0 tricks a").law(lines, 12).due(360, "man", 0, 6).due(12, "count", 5);
        for (String more : new String[] {"gain 1", "x", "1", ";", ""}) {
            run.wrongLaw(lines + ";" + more, lines.length() + 1).wrongLaw(lines + "  ;  " + more, lines.length() + 5);
        }
        run.wrongLaw(lines + "x", lines.length()).due(360, "man", 0, 6).call("days", 1).due(99, "man", 0, 0);
        run.law(rowOf("doubt 30", 12), 12).due(-360, "man", 0, 6).call("days", 1).due(0, "man", 0, 0);
    }

    private static void sixDeep() {
        Run run = new Run("5: at most 6 deep").book(MAN);
        String[] right = {"((((((1<2))))))", "not not not not not not 1<2", "not(not(not(1<2)))", "(not(not(not 1<2)))",
            "((((((1<2)))))) and ((((((1<2))))))", "(not(not(2>1 and not 1>2 and (1<2) and not 2<1)))"};
        int[] due = {1, 1, 0, 0, 1, 1};
        for (int i = 0; i < right.length; i++) {
            run.law("gain 1 if " + right[i], 1).due(due[i], "man", 0, 6);
        }
        String[] wrong = {"(((((((1<2)))))))", "not not not not not not not 1<2", "not(not(not(not 1<2)))", "((((((not 1<2))))))",
            "((((((1<2 or (1<2)))))))", "((((((1<2)))))) or (((((((1<2)))))))", "(((((((", "not not not not not not ("};
        int[] at = {6, 24, 12, 6, 13, 25, 6, 24};
        for (int i = 0; i < wrong.length; i++) {
            run.wrongLaw("gain 1 if " + wrong[i], 10 + at[i]);
        }
        run.wrongLaw("gain 1 if ((((((", 16).wrongLaw("gain 1 if not not not not not not", 33);
    }

    private static void facts() {
        Run debts = new Run("5: debts by 10, rounded down").book("chest 0;bar 0;" + MAN + ";test cost 9 stops f;test cost 1 stops f;test cost 99 stops f");
        debts.law("gain 1 if debts>0;gain 2 if debts>1;gain 4 if debts>998", 3).due(0, "man", 0, 6).call("tried", 0, 0).due(0, "man", 0, 6)
                .call("tried", 0, 1).due(1, "man", 0, 6).call("tried", 0, 0).due(19, "count", 8).due(1, "man", 0, 6)
                .call("tried", 0, 1).due(3, "man", 0, 6);
        for (int i = 0; i < 100; i++) {
            debts.call("tried", 0, 2);
        }
        debts.due(9920, "count", 8).due(3, "man", 0, 6).call("tried", 0, 2).due(9999, "count", 8).due(7, "man", 0, 6);
        new Run("5: done without steps").book(MAN).law("gain 1 if done;gain 2 if hot;gain 4 if at<1", 3).due(5, "man", 0, 6)
                .book("step days 2 cost 0 shows 0").due(4, "man", 0, 6).call("days", 1).due(6, "man", 0, 6).call("days", 1)
                .due(1, "man", 0, 6).book(STEP).due(0, "man", 0, 6);
        new Run("5: heated").book("bar 0;step days 3 cost 0 shows 0;" + MAN).law("gain 1 if heated>0;gain 2 if heated>1;gain 4 if heated>2", 3)
                .due(0, "man", 0, 6).call("days", 1).due(1, "man", 0, 6).call("days", 1).due(3, "man", 0, 6).call("days", 1).due(0, "man", 0, 6);
        new Run("5: the man's number").book(MAN + (";" + MAN).repeat(5)).law("gain 1 if man>0;gain 2 if man>4;gain 4 if man>5;gain 8 if man<1", 4)
                .due(8, "man", 0, 6).due(1, "man", 1, 6).due(1, "man", 4, 6).due(3, "man", 5, 6);
        new Run("5: without a text 1 less").book(MAN).due(-1, "man", 0, 6).law("", 0).due(0, "man", 0, 6).wrongLaw("x", 0).due(0, "man", 0, 6);
        new Run("5: sums above all numbers").book("man trust 99 nails 9 tricks a").law("gain 1 if 999+trust>999;gain 2 if 999+999+999<999+999", 2)
                .due(1, "man", 0, 6);
        String sum = "gain 1 if 9" + "+9".repeat(191) + ">1";
        new Run("5: a text of 400 bytes").book(MAN).law(sum + "+ 999", 1).due(1, "man", 0, 6).wrongLaw(sum + "+999+", sum.length() + 5);
    }

    private static void fault() {
        new Run("6: none without one, and ahead of any").due(-1, "fault").call("book").due(-1, "fault").call("law").due(-1, "fault")
                .wrongBook("bar", 3).call("book").due(-1, "fault").wrongLaw("bar", 0).call("book").due(-1, "fault");
        new Run("6: of the latest text that was read").wrongBook("bar", 3).wrongLaw("bar 1", 0).wrongBook("bar x", 4).due(4, "fault")
                .due(20, "feed", 1, 2, 3, 4, 5).fails(BAD, "seen", 0).due(4, "fault").due(63, "seen", 0).due(4, "fault")
                .call("days", 1).due(1, "undo").due(4, "fault").call("image").due(1, "back").due(4, "fault").due(1, "end", 0).due(4, "fault");
    }
}
