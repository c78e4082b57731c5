import java.lang.reflect.InvocationTargetException;
import java.lang.reflect.Method;

/** A run of calls on one new object, each with the answer that is due; calls go by name, so that every answer is seen alike. */
final class Run {
    private static int rows = 0;
    private static int wrong = 0;

    private final String name;
    private final NailGold gold = new NailGold();

    Run(String name) {
        this.name = name;
    }

    /** Ends the test's program: exit code 1 if an answer was not the one that is due. */
    static void close() {
        System.out.println(rows + " rows, " + wrong + " of them wrong");
        System.exit(wrong == 0 && rows > 0 ? 0 : 1);
    }

    /** What an object answers: the value (a boolean counts 1 or 0), or throws.NameOfTheException. */
    static String answer(Object target, String call, int... args) {
        Method method = methodNamed(target.getClass(), call);
        Object[] given = new Object[args.length];
        Class<?>[] kinds = method.getParameterTypes();
        if (kinds.length != args.length) {
            throw new IllegalArgumentException(call + " wants " + kinds.length + " arguments");
        }
        for (int i = 0; i < args.length; i++) {
            given[i] = kinds[i] == boolean.class ? (Object) (args[i] != 0) : (Object) args[i];
        }
        try {
            Object got = method.invoke(target, given);
            if (got instanceof Boolean) {
                return (Boolean) got ? "1" : "0";
            }
            return got == null ? "nothing" : got.toString();
        } catch (InvocationTargetException e) {
            return "throws." + e.getCause().getClass().getSimpleName();
        } catch (IllegalAccessException e) {
            throw new IllegalStateException(e);
        }
    }

    private static Method methodNamed(Class<?> kind, String call) {
        for (Method method : kind.getDeclaredMethods()) {
            if (method.getName().equals(call) && java.lang.reflect.Modifier.isPublic(method.getModifiers())) {
                return method;
            }
        }
        throw new IllegalArgumentException("no call " + call);
    }

    static void check(String row, String got, String want) {
        rows++;
        if (!got.equals(want)) {
            wrong++;
            System.out.println(row + " answered " + got + ", due is " + want);
        }
    }

    Run due(int want, String call, int... args) {
        check(name + ": " + call + java.util.Arrays.toString(args), answer(gold, call, args), String.valueOf(want));
        return this;
    }

    Run fails(Class<? extends RuntimeException> want, String call, int... args) {
        check(name + ": " + call + java.util.Arrays.toString(args), answer(gold, call, args),
                "throws." + want.getSimpleName());
        return this;
    }

    /** A call whose answer does not matter to the row that is looked at. */
    Run call(String call, int... args) {
        String got = answer(gold, call, args);
        check(name + ": " + call + java.util.Arrays.toString(args) + " throws nothing",
                String.valueOf(got.startsWith("throws.")), "false");
        return this;
    }

    /** The tape has this text alone (characters 0 to 255). */
    Run tape(String text) {
        answer(gold, "end", 0);
        for (int[] five : fives(text)) {
            answer(gold, "feed", five);
        }
        check(name + ": the tape takes '" + text + "'", answer(gold, "end", text.length()), "1");
        return this;
    }

    static java.util.List<int[]> fives(String text) {
        java.util.List<int[]> all = new java.util.ArrayList<>();
        for (int begin = 0; begin < text.length(); begin += 20) {
            int[] five = new int[5];
            for (int i = 0; i < 20; i++) {
                int sign = begin + i < text.length() ? text.charAt(begin + i) & 255 : 0;
                five[i / 4] |= sign << (24 - 8 * (i % 4));
            }
            all.add(five);
        }
        return all;
    }

    Run book(String text) {
        tape(text);
        String got = answer(gold, "book");
        check(name + ": '" + text + "' is a text of the book", String.valueOf(got.startsWith("throws.")), "false");
        return this;
    }

    Run law(String text, int lines) {
        return tape(text).due(lines, "law");
    }

    Run wrongBook(String text, int at) {
        return tape(text).fails(IllegalArgumentException.class, "book").wrongAt(text, at);
    }

    Run wrongLaw(String text, int at) {
        return tape(text).fails(IllegalArgumentException.class, "law").wrongAt(text, at);
    }

    private Run wrongAt(String text, int at) {
        check(name + ": '" + text + "' fault", answer(gold, "fault"), String.valueOf(at));
        return this;
    }
}
