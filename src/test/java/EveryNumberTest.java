import java.lang.reflect.Method;
import java.util.ArrayList;
import java.util.Arrays;
import java.util.HashMap;
import java.util.List;
import java.util.Map;

/** Every call with all numbers at its edges, one by another, on hills empty, full and faulty: as the Oracle answers. */
public final class EveryNumberTest {
    private static final int LEAST = Integer.MIN_VALUE, MOST = Integer.MAX_VALUE;
    private static final int[] TEXT = {LEAST, -1, 0, 1, 2, 3, MOST};
    private static final int[] BYTE = {LEAST, -1, 0, '/', '0', '1', '7', '8', '9', ':', ';', '`', 'a', 'c', 'h', 'm',
        'x', 'y', 255, 256, MOST};
    private static final int[] DAY = {LEAST, -1, 0, 1, 8, 22, 23, 24, MOST};
    private static final int[] OF_EIGHT = {LEAST, -1, 0, 1, 2, 7, 8, MOST};
    private static final int[] TWO = {LEAST, -1, 0, 1, 2, MOST};
    private static final int[] THREE = {LEAST, -1, 0, 1, 2, 3, MOST};
    private static final int[] SPARED = {LEAST, -2, -1, 0, 1, 2, MOST};
    private static final int[] GOLD = {LEAST, -1, 0, 1, 9, 10, MOST};
    private static final int[] SIXTEENTHS = {LEAST, -1, 0, 1, 8, 15, 16, 17, MOST};
    private static final int[] SEED = {LEAST, -1, 0, 1, 7, MOST};
    private static final int[] LOTS = {LEAST, -1, 0, 1, 23, 24, 25, MOST};
    private static final int[] SHEET = {LEAST, -1, 0, 1, 2, 3, 4, MOST};
    private static final int[] SIZE = {LEAST, -1, 0, 1, 59, 60, 61, MOST};
    private static final int[] ITEM = {LEAST, -1, 0, 1, 3, 4, 59, 60, MOST};
    private static final int[] VALUE = {LEAST, -32769, -129, -128, -1, 0, 127, 128, 255, 256, 32767, 32768, MOST};
    private static final int[] COUNT = {LEAST, -1, 0, 1, 2, 3, 4, 5, 6, 7, 8, 9, MOST};
    private static final int[] SPAN = {LEAST, -1, 0, 1, 3, 4, 5, MOST};

    private static final Due due = new Due();
    private static final Map<String, Method> METHODS = new HashMap<>();

    /** A call by its name and its numbers; made alike on a LilyQuarrels and on an Oracle. */
    private record Call(String name, int... numbers) {
        long on(Object target) {
            Method m = METHODS.get(target.getClass().getName() + "." + name);
            Object[] boxed = Arrays.stream(numbers).boxed().toArray();
            try {
                return ((Number) m.invoke(target, boxed)).longValue();
            } catch (ReflectiveOperationException e) {
                throw new IllegalStateException(this.text() + " on " + target.getClass(), e);
            }
        }

        String text() {
            return name + Arrays.toString(numbers);
        }
    }

    public static void main(String[] args) {
        know(LilyQuarrels.class);
        know(Oracle.class);
        List<List<Call>> hills = hills();
        for (int i = 0; i < hills.size(); i++) {
            texts(i, hills.get(i));
            days(i, hills.get(i));
            plansAndGuesses(i, hills.get(i));
            sheets(i, hills.get(i));
        }
        each(99, sheetsAlone(), "copy", SHEET, SPAN, SHEET, SPAN, SPAN);
        due.end();
    }

    private static void know(Class<?> type) {
        for (Method m : type.getDeclaredMethods()) {
            m.setAccessible(true);
            METHODS.putIfAbsent(type.getName() + "." + m.getName(), m);
        }
    }

    // ---- hills

    private static void type(List<Call> calls, int text, String bytes) {
        bytes.chars().forEach(b -> calls.add(new Call("type", text, b)));
    }

    private static List<Call> hill(String people, String quarrels, String glass) {
        List<Call> calls = new ArrayList<>();
        type(calls, 0, people);
        type(calls, 1, quarrels);
        type(calls, 2, glass);
        return calls;
    }

    private static List<Call> sheetsAlone() {
        List<Call> calls = new ArrayList<>();
        for (int s = 0; s < 3; s++) {
            calls.add(new Call("sheet", s, s == 0 ? 0 : 1, 4 - s));
            for (int i = 0; i < 4 - s; i++) {
                calls.add(new Call("lay", s, s == 0 ? 0 : 1, i, 10 * s + i));
            }
        }
        return calls;
    }

    private static List<Call> full() {
        List<Call> calls = hill("c4;h9;m3;h1;c9;h2;m8;h5", "01a;13b;24c;50d;67e;31f;44g;72x", "120301202100120030120012");
        int[][] events = {{0, 3}, {1, 5}, {0, 9}, {1, 5}, {0, 23}, {1, 0}, {0, 12}, {1, 22}};
        for (int[] e : events) {
            calls.add(new Call("event", e[0], e[1]));
        }
        for (int i = 0; i < 8; i++) {
            calls.add(new Call("seen", 0, 3, 0));
        }
        return calls;
    }

    private static List<List<Call>> hills() {
        List<List<Call>> all = new ArrayList<>();
        all.add(List.of());
        List<Call> some = hill("c9;h9", "01a;10i", "1013");
        some.add(new Call("event", 0, 8));
        some.add(new Call("event", 1, 3));
        some.add(new Call("seen", 1, 1, 1));
        some.addAll(sheetsAlone());
        all.add(some);
        all.add(full());
        all.add(hill("c9;h9;", "01a", "1"));
        all.add(hill("c9;h9", "01a;", "1"));
        all.add(hill("c9;h9", "01a", "1x"));
        List<Call> nearly = full();
        nearly.addAll(List.of(new Call("undo", 0), new Call("undo", 1), new Call("undo", 2), new Call("back")));
        all.add(nearly);
        return all;
    }

    // ---- calls

    /** Each way to take one number of each row. */
    private static void each(int hill, List<Call> before, String name, int[]... rows) {
        int ways = 1;
        for (int[] row : rows) {
            ways *= row.length;
        }
        for (int way = 0; way < ways; way++) {
            int[] numbers = new int[rows.length];
            int rest = way;
            for (int i = 0; i < rows.length; i++) {
                numbers[i] = rows[i][rest % rows[i].length];
                rest /= rows[i].length;
            }
            one(hill, before, new Call(name, numbers));
        }
    }

    private static void one(int hill, List<Call> before, Call call) {
        Object x = new LilyQuarrels();
        Object o = new Oracle();
        for (Call b : before) {
            b.on(x);
            b.on(o);
        }
        String told = call.text() + " on hill " + hill;
        due.same(told, call.on(x), call.on(o));
        for (int what = 0; what < 9; what++) {
            Call count = new Call("count", what);
            due.same(count.text() + " behind " + told, count.on(x), count.on(o));
        }
    }

    private static void texts(int hill, List<Call> before) {
        each(hill, before, "type", TEXT, BYTE);
        each(hill, before, "wipe", TEXT);
        each(hill, before, "undo", TEXT);
        each(hill, before, "fault", TEXT);
        each(hill, before, "person", OF_EIGHT, TWO);
        each(hill, before, "quarrel", OF_EIGHT, THREE);
        each(hill, before, "glass", DAY);
        each(hill, before, "event", TWO, DAY);
        each(hill, before, "back");
        each(hill, before, "read", SHEET);
        each(hill, before, "count", COUNT);
    }

    private static void days(int hill, List<Call> before) {
        each(hill, before, "stands", DAY, OF_EIGHT, THREE);
        each(hill, before, "at", DAY, OF_EIGHT, THREE);
        each(hill, before, "stock", DAY, TWO);
        each(hill, before, "over", OF_EIGHT);
        each(hill, before, "mist", TWO);
        each(hill, before, "waste");
        each(hill, before, "goldest");
        each(hill, before, "peace");
    }

    private static void plansAndGuesses(int hill, List<Call> before) {
        each(hill, before, "chin", OF_EIGHT, TWO);
        each(hill, before, "dawn", OF_EIGHT, TWO);
        each(hill, before, "monday", TWO);
        each(hill, before, "spare", SPARED);
        each(hill, before, "seen", DAY, OF_EIGHT, GOLD);
        each(hill, before, "forget");
        each(hill, before, "never");
        each(hill, before, "was", OF_EIGHT, TWO);
        each(hill, before, "ask", OF_EIGHT);
        each(hill, before, "chance", SIXTEENTHS, OF_EIGHT, TWO);
        each(hill, before, "years", SEED, LOTS, TWO);
    }

    private static void sheets(int hill, List<Call> before) {
        each(hill, before, "sheet", SHEET, THREE, SIZE);
        each(hill, before, "lose", SHEET);
        each(hill, before, "write", OF_EIGHT, SHEET);
        if (hill < 2) {
            each(hill, before, "lay", SHEET, THREE, ITEM, VALUE);
            each(hill, before, "get", SHEET, THREE, ITEM);
        }
    }
}
