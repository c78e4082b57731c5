import java.lang.management.ManagementFactory;
import java.lang.reflect.Array;
import java.lang.reflect.Field;
import java.lang.reflect.Modifier;
import java.util.Collections;
import java.util.IdentityHashMap;
import java.util.Set;

/** All calls of one run live in one room: an object is small, and calls make next to nothing. */
public final class RoomTest {
    private static final com.sun.management.ThreadMXBean ROOM =
            (com.sun.management.ThreadMXBean) ManagementFactory.getThreadMXBean();

    private static long made() {
        return ROOM.getThreadAllocatedBytes(Thread.currentThread().getId());
    }

    public static void main(String[] args) throws IllegalAccessException {
        NailGold gold = new NailGold();
        Set<Object> objects = Collections.newSetFromMap(new IdentityHashMap<>());
        long cells = cellsOf(gold, objects);
        // The room for 512 calls, were each of them the dearest one: a new object.
        Run.check("objects of one: " + objects.size(), String.valueOf(objects.size() * 512L <= 600_000), "true");
        Run.check("fields and elements of one: " + cells, String.valueOf(cells * 512L <= 7_300_000), "true");

        tell(gold, "step days 3 cost 9 shows 5;man trust 50 nails 9 tricks ab;man trust 40 nails 3 tricks b;"
                + "test cost 0 stops a;test cost 2 stops b;rival 90;rival 900;luck 50;chest 99");
        gold.book();
        tell(gold, "doubt 2 if not hot;gain 1 if trust+nails>50 or (day>9 and man<1)");
        gold.law();
        asked(gold);
        long begin = made();
        for (int i = 0; i < 100; i++) {
            asked(gold);
        }
        long round = (made() - begin) / 100;
        Run.check("bytes of a round of calls: " + round, String.valueOf(round < 1024), "true");
        System.out.println(objects.size() + " objects, " + cells + " fields and elements, " + round + " bytes a round");
        Run.close();
    }

    /** Fields and elements of an object and of all that it holds. */
    private static long cellsOf(Object one, Set<Object> known) throws IllegalAccessException {
        if (one == null || !known.add(one)) {
            return 0;
        }
        long cells = 0;
        if (one.getClass().isArray()) {
            cells += Array.getLength(one);
            for (int i = 0; !one.getClass().getComponentType().isPrimitive() && i < Array.getLength(one); i++) {
                cells += cellsOf(Array.get(one, i), known);
            }
            return cells;
        }
        for (Field field : one.getClass().getDeclaredFields()) {
            if (!Modifier.isStatic(field.getModifiers())) {
                field.setAccessible(true);
                cells += 1 + (field.getType().isPrimitive() ? 0 : cellsOf(field.get(one), known));
            }
        }
        return cells;
    }

    private static void tell(NailGold gold, String text) {
        for (int[] five : Run.fives(text)) {
            gold.feed(five[0], five[1], five[2], five[3], five[4]);
        }
        gold.end(text.length());
    }

    private static long asked(NailGold gold) {
        long sum = gold.ahead(0, 200, 0) + gold.owes(200) + gold.chest(200) + gold.lives(0) + gold.done(1);
        sum += gold.longest(0, -1) + gold.longest(0, 29) + gold.needs(1, 30) + gold.fewest(0) + gold.cheapest(0, true);
        sum += gold.seen(true) + gold.ask() + gold.rests(0, 1) + gold.odds(5, 2) + gold.bids(true) + gold.sold(1);
        sum += gold.secret() + gold.trial(200, true) + gold.span(200, true) + gold.led(0, true) + gold.man(0, 9);
        gold.image();
        gold.proof(0);
        gold.tried(1, 0);
        gold.part(0, 1);
        sum += gold.days(200);
        gold.undo();
        gold.flee(0);
        gold.sell(1, 1, 5);
        gold.back();
        return sum;
    }
}
