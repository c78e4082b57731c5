import java.lang.reflect.InvocationTargetException;
import java.lang.reflect.Method;

/** A run of calls on one new object, each with the answer that is due; calls go by name, so that every answer is seen alike. */
final class Run {
    private static int rows = 0;
    private static int wrong = 0;

    // What an object answers behind its 512th call is free, so that no row may stand there.
    private static final int MOST_CALLS = 512;

    private final String name;
    private final NailGold gold = new NailGold();
    private int calls = 0;

    Run(String name) {
        this.name = name;
    }

    /** Ends the test's program: exit code 1 if an answer was not the one that is due. */
    static void close() {
        System.out.println(rows + " rows, " + wrong + " of them wrong");
        System.exit(wrong == 0 && rows > 0 ? 0 : 1);
    }

    /** What an object answers: the value (a boolean counts 1 or 0), or throws.NameOfTheException. */
    static String answer(Object target, String call, int... args) {
        Method method = methodNamed(target.getClass(), call);
        Object[] given = new Object[args.length];
        Class<?>[] kinds = method.getParameterTypes();
        if (kinds.length != args.length) {
            throw new IllegalArgumentException(call + " wants " + kinds.length + " arguments");
        }
        for (int i = 0; i < args.length; i++) {
            given[i] = kinds[i] == boolean.class ? (Object) (args[i] != 0) : (Object) args[i];
        }
        try {
            Object got = method.invoke(target, given);
            if (got instanceof Boolean) {
                return (Boolean) got ? "1" : "0";
            }
            return got == null ? "nothing" : got.toString();
        } catch (InvocationTargetException e) {
            return "throws." + e.getCause().getClass().getSimpleName();
        } catch (IllegalAccessException e) {
            throw new IllegalStateException(e);
        }
    }

    private static Method methodNamed(Class<?> kind, String call) {
        for (Method method : kind.getDeclaredMethods()) {
            if (method.getName().equals(call) && java.lang.reflect.Modifier.isPublic(method.getModifiers())) {
                return method;
            }
        }
        throw new IllegalArgumentException("no call " + call);
    }

    static void check(String row, String got, String want) {
        rows++;
        if (!got.equals(want)) {
            wrong++;
            System.out.println(row + " answered " + got + ", due is " + want);
        }
    }

    private String ask(String call, int... args) {
        calls++;
        if (calls > MOST_CALLS) {
            throw new IllegalStateException(name + " has more than " + MOST_CALLS + " calls");
        }
        return answer(gold, call, args);
    }

    Run due(int want, String call, int... args) {
        check(name + ": " + call + java.util.Arrays.toString(args), ask(call, args), String.valueOf(want));
        return this;
    }

    Run fails(Class<? extends RuntimeException> want, String call, int... args) {
        check(name + ": " + call + java.util.Arrays.toString(args), ask(call, args), "throws." + want.getSimpleName());
        return this;
    }

    /** As fails, and nothing that can be asked is otherwise behind it. */
    Run failsAndLeaves(Class<? extends RuntimeException> want, String call, int... args) {
        String ahead = all();
        fails(want, call, args);
        check(name + ": what stands behind " + call + java.util.Arrays.toString(args), all(), ahead);
        return this;
    }

    /** A call that answers, after which all that can be asked is as ahead of it. */
    Run leaves(int want, String call, int... args) {
        String ahead = all();
        due(want, call, args);
        check(name + ": what stands behind " + call + java.util.Arrays.toString(args), all(), ahead);
        return this;
    }

    /** An act that can be undone: all that can be asked is then as ahead of it. */
    Run undone(String act, int... args) {
        String ahead = all();
        call(act, args);
        check(name + ": " + act + " changes something", String.valueOf(all().equals(ahead)), "false");
        due(1, "undo");
        check(name + ": what stands when " + act + java.util.Arrays.toString(args) + " is undone", all(), ahead);
        return this;
    }

    /** What a call answers, for a row in which it does not matter what that is. */
    int number(String call, int... args) {
        return Integer.parseInt(ask(call, args));
    }

    /** All that can be asked without an act, in one text (the tape and fault() apart). */
    private String all() {
        StringBuilder told = new StringBuilder();
        int[] most = new int[15];
        for (int what = 0; what < 15; what++) {
            most[what] = Integer.parseInt(ask("count", what));
            told.append(most[what]).append(' ');
        }
        rowsOf(told, "step", most[0], 4);
        rowsOf(told, "man", most[1], 7);
        rowsOf(told, "test", most[2], 2);
        rowsOf(told, "rival", most[3], 2);
        rowsOf(told, "log", Math.min(2, most[13]), 4);
        String seed = ask("seed", 0);
        ask("seed", Integer.parseInt(seed));
        return told.append(seed).toString();
    }

    private void rowsOf(StringBuilder told, String call, int rows, int whats) {
        for (int row = 0; row < rows; row++) {
            for (int what = 0; what < whats; what++) {
                told.append(ask(call, row, what)).append(' ');
            }
        }
    }

    /** A call whose answer does not matter to the row that is looked at. */
    Run call(String call, int... args) {
        String got = ask(call, args);
        check(name + ": " + call + java.util.Arrays.toString(args) + " throws nothing",
                String.valueOf(got.startsWith("throws.")), "false");
        return this;
    }

    /** The tape has this text alone (characters 0 to 255). */
    Run tape(String text) {
        ask("end", 0);
        for (int[] five : fives(text)) {
            ask("feed", five);
        }
        check(name + ": the tape takes '" + text + "'", ask("end", text.length()), "1");
        return this;
    }

    static java.util.List<int[]> fives(String text) {
        java.util.List<int[]> all = new java.util.ArrayList<>();
        for (int begin = 0; begin < text.length(); begin += 20) {
            int[] five = new int[5];
            for (int i = 0; i < 20; i++) {
                int sign = begin + i < text.length() ? text.charAt(begin + i) & 255 : 0;
                five[i / 4] |= sign << (24 - 8 * (i % 4));
            }
            all.add(five);
        }
        return all;
    }

    Run book(String text) {
        tape(text);
        String got = ask("book");
        check(name + ": '" + text + "' is a text of the book", String.valueOf(got.startsWith("throws.")), "false");
        return this;
    }

    Run law(String text, int lines) {
        return tape(text).due(lines, "law");
    }

    Run wrongBook(String text, int at) {
        return tape(text).fails(IllegalArgumentException.class, "book").wrongAt(text, at);
    }

    Run wrongLaw(String text, int at) {
        return tape(text).fails(IllegalArgumentException.class, "law").wrongAt(text, at);
    }

    private Run wrongAt(String text, int at) {
        check(name + ": '" + text + "' fault", ask("fault"), String.valueOf(at));
        return this;
    }
}
