import java.io.IOException;
import java.lang.reflect.InvocationTargetException;
import java.lang.reflect.Method;
import java.lang.reflect.Modifier;
import java.nio.file.Files;
import java.nio.file.Path;
import java.util.HashSet;
import java.util.Set;
import java.util.regex.Matcher;
import java.util.regex.Pattern;

/** Whatever numbers a call is given in whatever state: it throws by a throw statement of its own, and only what its line in the document names. */
public final class ThrowsTest {
    private static final int[] ODD = {Integer.MIN_VALUE, -65, -2, -1, 0, 1, 2, 5, 6, 7, 8, 29, 30, 31, 32, 63, 64, 200, 201, 9999, Integer.MAX_VALUE};
    private static final int STATES = 6;
    private static final Set<String> WRITTEN = new HashSet<>();
    private static long made = 0;

    public static void main(String[] args) throws IOException, ReflectiveOperationException {
        Matcher thrown = Pattern.compile("throw new (\\w+)\\(\"([^\"]*)\"\\)").matcher(Files.readString(Path.of("src/main/java/NailGold.java")));
        while (thrown.find()) {
            WRITTEN.add(thrown.group(1) + ": " + thrown.group(2));
        }
        for (Method method : NailGold.class.getDeclaredMethods()) {
            if (Modifier.isPublic(method.getModifiers())) {
                for (int state = 0; state < STATES; state++) {
                    allOf(method, state);
                }
            }
        }
        Run.check("calls made: " + made, String.valueOf(made > 20000), "true");
        Run.close();
    }

    /** Each choice of odd numbers for a call, on an object in that state; of five numbers four are alike. */
    private static void allOf(Method method, int state) throws ReflectiveOperationException {
        int much = Math.min(3, method.getParameterCount());
        int choices = 1;
        for (int i = 0; i < much; i++) {
            choices *= method.getParameterTypes()[i] == boolean.class ? 2 : ODD.length;
        }
        NailGold gold = null;
        for (int choice = 0; choice < choices; choice++) {
            if (choice % 300 == 0) {
                gold = inState(state);
            }
            one(gold, method, state, choice);
        }
    }

    private static void one(NailGold gold, Method method, int state, int choice) throws ReflectiveOperationException {
        Class<?>[] kinds = method.getParameterTypes();
        Object[] args = new Object[kinds.length];
        int rest = choice;
        for (int i = 0; i < kinds.length; i++) {
            int of = kinds[i] == boolean.class ? 2 : ODD.length;
            args[i] = kinds[i] == boolean.class ? (Object) (rest % of == 1) : (Object) ODD[rest % of];
            rest /= of;
        }
        made++;
        try {
            method.invoke(gold, args);
        } catch (InvocationTargetException e) {
            Throwable thrown = e.getCause();
            String row = "state " + state + ", " + method.getName() + java.util.Arrays.toString(args) + " throws " + thrown;
            Run.check(row + " by itself", String.valueOf(WRITTEN.contains(thrown.getClass().getSimpleName() + ": " + thrown.getMessage())), "true");
            boolean named = false;
            for (Class<?> kind : method.getExceptionTypes()) {
                named |= kind == thrown.getClass();
            }
            Run.check(row + " as named", String.valueOf(named), "true");
        }
    }

    private static void tell(NailGold gold, String text) {
        for (int[] five : Run.fives(text)) {
            gold.feed(five[0], five[1], five[2], five[3], five[4]);
        }
        gold.end(text.length());
    }

    private static void book(NailGold gold, String text) {
        tell(gold, text);
        gold.book();
    }

    /** 0 new, 1 all there can be, 2 a step heated, 3 all done, 4 all in the tower, 5 a full tape. */
    private static NailGold inState(int state) {
        NailGold gold = new NailGold();
        if (state == 0) {
            return gold;
        }
        book(gold, "bar 0;luck 50;" + "step days 2 cost 9 shows 1;".repeat(7) + "step days 2 cost 9 shows 1");
        book(gold, "man trust 50 nails 9 tricks abcdef;".repeat(5) + "man trust 99 nails 9 tricks f");
        book(gold, "test cost 9 stops abcdef;".repeat(5) + "test cost 9 stops f");
        book(gold, "rival 999;".repeat(5) + "rival 0");
        tell(gold, "gain 9 if not (hot or nails+trust>99);doubt 3 if debts>1 and man<3 or day>9");
        gold.law();
        gold.image();
        if (state > 1) {
            gold.days(state == 2 ? 1 : 16);
            gold.proof(5);
            gold.tried(5, 5);
        }
        if (state == 4) {
            book(gold, "bar 99");
            tell(gold, "doubt 30");
            gold.law();
            gold.days(2);
        }
        if (state == 5) {
            tell(gold, "a".repeat(400));
        }
        return gold;
    }
}
