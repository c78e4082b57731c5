import java.util.ArrayList;
import java.util.Arrays;
import java.util.List;
import java.util.Random;

/** Runs of drawn calls, each answered by NailGold and by the Oracle alike. The draws are the same each time. */
public final class RandomRunsTest {
    private static final int CALLS = 512;
    private static final String[] ASKED = {"fault", "step", "man", "test", "rival", "ahead", "owes", "chest", "lives",
        "done", "longest", "needs", "stopped", "fewest", "cheapest", "slips", "rests", "odds", "bids", "sold", "secret",
        "mates", "knows", "dearest", "kept", "trial", "span", "led", "log", "count"};
    private static final String[] ACTS = {"proof", "tried", "flee", "sell", "part", "pay", "days"};

    private final Random draw;
    private final NailGold gold = new NailGold();
    private final Oracle oracle = new Oracle();
    private final List<String> calls = new ArrayList<>();
    private boolean apart = false;

    private RandomRunsTest(long seed) {
        draw = new Random(seed);
    }

    public static void main(String[] args) {
        int runs = args.length > 0 ? Integer.parseInt(args[0]) : 150;
        long first = args.length > 1 ? Long.parseLong(args[1]) : 1;
        for (long seed = first; seed < first + runs; seed++) {
            RandomRunsTest run = new RandomRunsTest(seed);
            run.go();
            Run.check("run of seed " + seed + ", the last of " + run.calls, run.apart ? "apart" : "alike", "alike");
        }
        Run.close();
    }

    private void go() {
        int prelude = oneOf(12);
        if (prelude == 0) {
            manyDays();
        } else if (prelude == 1) {
            manyTests();
        }
        if (oneOf(5) > 0) {
            tell(drawnBook(), "book");
        }
        if (oneOf(3) > 0) {
            tell(drawnLaw(), "law");
        }
        while (!apart && calls.size() < CALLS) {
            int kind = oneOf(100);
            if (kind < 4) {
                tell(spoilt(drawnBook(), 3), "book");
            } else if (kind < 8) {
                tell(spoilt(drawnLaw(), 3), "law");
            } else if (kind < 12) {
                tell(drawnTale(), oneOf(2) == 0 ? "ask" : "seen", oneOf(2));
            } else if (kind < 40) {
                drawnCall(ACTS[oneOf(ACTS.length)]);
            } else if (kind < 46) {
                both("undo");
            } else if (kind < 48) {
                both(oneOf(2) == 0 ? "image" : "back");
            } else if (kind < 50) {
                both("seed", draw.nextInt());
            } else {
                drawnCall(ASKED[oneOf(ASKED.length)]);
            }
        }
    }

    /** Near the last day that is counted, and by luck near all that the chest can hold. */
    private void manyDays() {
        tell("bar 0;luck " + within(0, 100) + ";man trust 50 nails 5 tricks a;rival 999;step days 30 cost 99 shows 1", "book");
        int much = within(47, 50);
        for (int i = 0; i < much; i++) {
            both("days", within(195, 200));
        }
    }

    /** Near the most debts, with a log from which rows have gone. */
    private void manyTests() {
        tell("bar 0;chest 0;man trust 50 nails 5 tricks a;man trust 60 nails 9 tricks b;test cost 99 stops ab;test cost 97 stops c", "book");
        int much = within(58, 103);
        for (int i = 0; i < much; i++) {
            both("tried", oneOf(2), oneOf(2));
        }
    }

    private int oneOf(int n) {
        return draw.nextInt(n);
    }

    private int within(int least, int most) {
        return least + oneOf(most - least + 1);
    }

    private void both(String call, int... args) {
        if (apart || calls.size() >= CALLS) {
            return;
        }
        String got = Run.answer(gold, call, args);
        String due = Run.answer(oracle, call, args);
        calls.add(call + Arrays.toString(args) + "=" + got);
        if (!got.equals(due)) {
            apart = true;
            calls.add("due is " + due);
        }
    }

    private void tell(String text, String call, int... args) {
        if (oneOf(30) > 0) {
            both("end", 0);
        }
        for (int[] five : Run.fives(text)) {
            both("feed", five);
        }
        if (oneOf(40) > 0) {
            both("end", text.length());
        } else {
            both("end", within(-2, text.length() + 2));
        }
        both(call, call.equals("seen") ? args : new int[0]);
        both("fault");
    }

    // ---- arguments, mostly such as there are ----

    private void drawnCall(String call) {
        int man = drawnIndex(gold.count(1));
        int step = drawnIndex(gold.count(0));
        int test = drawnIndex(gold.count(2));
        int rival = drawnIndex(gold.count(3));
        int flag = oneOf(2);
        switch (call) {
            case "step": both(call, step, within(-1, 4)); break;
            case "man": both(call, man, within(-1, 10)); break;
            case "test": both(call, test, flag); break;
            case "rival": both(call, rival, flag); break;
            case "tried": case "rests": both(call, man, test); break;
            case "proof": case "flee": case "lives": case "done": case "fewest": case "slips": both(call, man); break;
            case "sell": both(call, man, rival, oneOf(3) == 0 ? within(-1, 1000) : within(-1, 60)); break;
            case "part": both(call, step, rival); break;
            case "pay": both(call, oneOf(2) == 0 ? within(-1, 30) : gold.count(8) - within(0, 3)); break;
            case "days": both(call, oneOf(8) == 0 ? within(-1, 202) : within(0, 6)); break;
            case "ahead": both(call, man, drawnDays(), within(-1, 4)); break;
            case "owes": case "chest": both(call, drawnDays()); break;
            case "longest": both(call, man, within(-2, 30)); break;
            case "needs": both(call, man, within(0, 31)); break;
            case "stopped": both(call, man, oneOf(4) == 0 ? draw.nextInt() : oneOf(64)); break;
            case "cheapest": case "led": both(call, man, flag); break;
            case "odds": both(call, within(-1, 6), within(-1, 6)); break;
            case "bids": case "kept": both(call, flag); break;
            case "sold": both(call, oneOf(3) == 0 ? -1 : rival); break;
            case "knows": both(call, within(-1, 6)); break;
            case "trial": case "span": both(call, drawnDays(), flag); break;
            case "log": both(call, within(-1, oneOf(2) == 0 ? 5 : 61), within(-1, 4)); break;
            case "count": both(call, within(-1, 15)); break;
            default: both(call); break;
        }
    }

    private int drawnIndex(int count) {
        if (oneOf(25) == 0) {
            return oneOf(2) == 0 ? draw.nextInt() : within(-1, 9);
        }
        return count == 0 ? within(-1, 1) : oneOf(count);
    }

    private int drawnDays() {
        int kind = oneOf(20);
        return kind == 0 ? within(-2, 0) : kind == 1 ? within(199, 202) : kind < 6 ? within(0, 200) : within(0, 40);
    }

    private String drawnTale() {
        StringBuilder tale = new StringBuilder();
        int told = oneOf(12) == 0 ? within(18, 22) : within(0, 4);
        int tests = gold.count(2);
        for (int i = 0; i < told; i++) {
            tale.append((char) (tests > 0 && oneOf(40) > 0 ? oneOf(tests) : oneOf(256)));
            tale.append((char) (oneOf(60) > 0 ? oneOf(2) : oneOf(256)));
        }
        if (oneOf(20) == 0) {
            tale.append((char) 0);
        }
        return tale.toString();
    }

    // ---- texts by the grammar ----

    private String blanks() {
        return " ".repeat(oneOf(12) == 0 ? oneOf(3) : 0);
    }

    private String drawnNumber(int least, int most) {
        int kind = oneOf(120);
        int n = kind == 0 ? most + 1 : kind == 1 ? least - 1 : kind < 12 ? most : kind < 24 ? least : within(least, most);
        String text = String.valueOf(Math.max(0, n));
        return oneOf(25) == 0 ? "0".repeat(oneOf(3)) + text : text;
    }

    private String drawnTricks() {
        StringBuilder word = new StringBuilder();
        List<Character> all = new ArrayList<>(List.of('a', 'b', 'c', 'd', 'e', 'f'));
        java.util.Collections.shuffle(all, draw);
        int much = within(1, oneOf(3) == 0 ? 6 : 3);
        for (int i = 0; i < much; i++) {
            word.append(all.get(i));
        }
        return oneOf(80) == 0 ? word + "g" : oneOf(80) == 0 ? word + word.substring(0, 1) : word.toString();
    }

    private String drawnBook() {
        List<String> lines = new ArrayList<>();
        int much = oneOf(15) == 0 ? within(12, 16) : within(0, 9);
        for (int i = 0; i < much; i++) {
            lines.add(blanks() + drawnBookLine() + blanks());
        }
        String text = String.join(";", lines);
        return text.length() > 400 ? text.substring(0, 400) : text;
    }

    private String drawnBookLine() {
        switch (oneOf(11)) {
            case 0: case 1:
                return "step days " + (oneOf(3) == 0 ? drawnNumber(1, 30) : drawnNumber(1, 5)) + " cost "
                        + drawnNumber(0, 99) + blanks() + " shows " + drawnNumber(0, 50);
            case 2: case 3: case 4:
                return "man trust " + (oneOf(2) == 0 ? drawnNumber(20, 60) : drawnNumber(0, 99)) + blanks() + "nails "
                        + drawnNumber(0, 9) + " tricks " + drawnTricks();
            case 5: case 6: return "test cost " + drawnNumber(0, 99) + " stops" + " " + drawnTricks();
            case 7: return "rival " + drawnNumber(0, oneOf(2) == 0 ? 999 : 90);
            case 8: return "chest " + drawnNumber(0, 999);
            case 9: return "bar " + drawnNumber(0, oneOf(2) == 0 ? 99 : 30);
            default: return oneOf(2) == 0 ? "luck " + drawnNumber(0, 100) : "proof " + drawnNumber(0, 50);
        }
    }

    private String drawnLaw() {
        List<String> lines = new ArrayList<>();
        int much = oneOf(15) == 0 ? within(11, 14) : within(0, 6);
        for (int i = 0; i < much; i++) {
            String line = (oneOf(2) == 0 ? "gain " : "doubt ") + drawnNumber(0, oneOf(3) == 0 ? 30 : 5);
            lines.add(oneOf(4) == 0 ? line : line + " if " + drawnChoice(oneOf(10) == 0 ? 7 : oneOf(3)));
        }
        String text = String.join(blanks() + ";" + blanks(), lines);
        return text.length() > 400 ? text.substring(0, 400) : text;
    }

    private String drawnChoice(int deep) {
        String all = drawnAll(deep);
        return oneOf(4) == 0 ? all + " or " + drawnAll(Math.min(deep, 1)) : all;
    }

    private String drawnAll(int deep) {
        String atom = drawnAtom(deep);
        return oneOf(4) == 0 ? atom + " and " + drawnAtom(Math.min(deep, 1)) : atom;
    }

    private String drawnAtom(int deep) {
        if (deep > 0) {
            return oneOf(2) == 0 ? "not " + drawnAtom(deep - 1) : "(" + blanks() + drawnChoice(deep - 1) + ")";
        }
        int kind = oneOf(6);
        if (kind < 2) {
            return kind == 0 ? "hot" : "done";
        }
        return drawnSum() + (kind < 4 ? "<" : ">") + blanks() + drawnSum();
    }

    private String drawnSum() {
        String part = drawnPart();
        return oneOf(4) == 0 ? part + blanks() + "+" + drawnPart() : part;
    }

    private String drawnPart() {
        String[] words = {"man", "trust", "nails", "at", "heated", "debts", "day"};
        if (oneOf(2) == 0) {
            return words[oneOf(words.length)];
        }
        return drawnNumber(0, oneOf(4) == 0 ? 999 : oneOf(2) == 0 ? 60 : 6);
    }

    /** One time in so many, a byte is changed, taken out or put in. */
    private String spoilt(String text, int times) {
        if (oneOf(times) > 0 || text.isEmpty()) {
            return text;
        }
        int at = oneOf(text.length());
        String signs = "abgz 019;()<>+AZ\t!" + (char) 233;
        String sign = String.valueOf(signs.charAt(oneOf(signs.length())));
        switch (oneOf(4)) {
            case 0: return text.substring(0, at) + sign + text.substring(at + 1);
            case 1: return text.substring(0, at) + text.substring(at + 1);
            case 2: return text.length() < 400 ? text.substring(0, at) + sign + text.substring(at) : text;
            default: return text.substring(0, at);
        }
    }
}
