import java.lang.reflect.Array;
import java.math.BigInteger;
import java.util.ArrayList;
import java.util.Arrays;
import java.util.HashMap;
import java.util.List;
import java.util.Map;
import java.util.function.Function;
import java.util.function.ToIntFunction;
import java.util.regex.Matcher;
import java.util.regex.Pattern;
import java.util.stream.Collectors;
import java.util.stream.IntStream;

/** The document again, told another way: nothing is kept but what was told, every answer is worked out anew. */
final class Oracle {
    record Person(char sort, int temper) {
    }

    record Quarrel(int first, int whom, int day) {
    }

    record Event(int kind, int day) {
    }

    record Seen(int day, int person, int gold) {
    }

    /** All that a course of days depends on. */
    record World(List<Person> people, List<Quarrel> quarrels, List<Integer> cut, List<Event> events, int monday) {
        boolean isVoid(Quarrel q) {
            return q.first() >= people.size() || q.whom() >= people.size() || q.first() == q.whom();
        }

        World withPerson(int i, Person p) {
            List<Person> other = new ArrayList<>(people);
            other.set(i, p);
            return new World(other, quarrels, cut, events, monday);
        }

        World withQuarrel(int i, Quarrel q) {
            List<Quarrel> other = new ArrayList<>(quarrels);
            other.set(i, q);
            return new World(people, other, cut, events, monday);
        }

        World withCut(List<Integer> other) {
            return new World(people, quarrels, other, events, monday);
        }

        World withEvents(List<Event> other) {
            return new World(people, quarrels, cut, other, monday);
        }

        World withMonday(int day) {
            return new World(people, quarrels, cut, events, day);
        }
    }

    /** How everything is behind a day. */
    static final class Behind {
        int stock;
        int[] gold;
        int[] struck;
        int[] striking;
        int[] heat;
        int[] blows;
        int[] state;
        boolean[] waited;

        Behind(World w) {
            int p = w.people().size();
            int q = w.quarrels().size();
            gold = new int[p];
            struck = new int[p];
            striking = new int[p];
            blows = new int[q];
            waited = new boolean[q];
            heat = w.quarrels().stream().mapToInt(u -> w.isVoid(u) ? 0
                    : w.people().get(u.first()).temper() + w.people().get(u.whom()).temper()).toArray();
            state = w.quarrels().stream().mapToInt(u -> w.isVoid(u) ? 4 : 0).toArray();
        }

        Behind(Behind b) {
            stock = b.stock;
            gold = b.gold.clone();
            struck = b.struck.clone();
            striking = b.striking.clone();
            heat = b.heat.clone();
            blows = b.blows.clone();
            state = b.state.clone();
            waited = new boolean[b.waited.length];
        }

        int ended() {
            return (int) Arrays.stream(state).filter(s -> s == 3).count();
        }
    }

    private static final Pattern[] GRAMMAR = {Pattern.compile("([cmh][1-9](;[cmh][1-9]){0,7})?"),
        Pattern.compile("([0-7][0-7][a-x](;[0-7][0-7][a-x]){0,7})?"), Pattern.compile("[0-9]{0,24}")};
    private static final int[] MOST = {23, 31, 24};

    private final String[] texts = {"", "", ""};
    private final List<Event> events = new ArrayList<>();
    private final List<Seen> seens = new ArrayList<>();
    private final Object[] rows = new Object[4];
    private int finding;

    // ---- the course of days

    static List<Behind> days(World w) {
        List<Behind> all = new ArrayList<>();
        Behind now = new Behind(w);
        for (int day = 0; day < 24; day++) {
            now = new Behind(now);
            int today = day;
            for (Event e : w.events()) {
                if (e.equals(new Event(0, day))) {
                    now.gold = Arrays.stream(now.gold).map(g -> g < 2 ? 0 : g - 2).toArray();
                }
            }
            boolean frost = w.events().stream().anyMatch(e -> e.equals(new Event(1, today)));
            for (int i = 0; i < (frost ? 0 : w.cut().get(day)) + (w.monday() == day ? 5 : 0); i++) {
                now.stock += now.stock == 20 ? 0 : 1;
            }
            for (int q = 0; q < w.quarrels().size(); q++) {
                if (now.state[q] < 3 && w.quarrels().get(q).day() <= day) {
                    turn(w, now, q);
                }
            }
            all.add(now);
        }
        return all;
    }

    private static void turn(World w, Behind now, int q) {
        Quarrel u = w.quarrels().get(q);
        int[] pair = now.blows[q] % 2 == 0 ? new int[] {u.first(), u.whom()} : new int[] {u.whom(), u.first()};
        char striker = w.people().get(pair[0]).sort();
        char struck = w.people().get(pair[1]).sort();
        now.state[q] = 1;
        if (striker == 'm') {
            now.heat[q] -= 1;
        } else if (now.stock == 0) {
            now.state[q] = 2;
            now.waited[q] = true;
            if (striker == 'h' && now.heat[q] < 18) {
                now.heat[q] += 1;
            }
        } else {
            now.stock -= 1;
            now.blows[q] += 1;
            now.striking[pair[0]] += 1;
            now.struck[pair[1]] += 1;
            for (int i = 0; i < (struck == 'c' ? 2 : 1); i++) {
                now.gold[pair[1]] += now.gold[pair[1]] == 9 ? 0 : 1;
            }
            now.heat[q] -= struck == 'm' ? 3 : 1;
        }
        if (now.heat[q] <= 0) {
            now.heat[q] = 0;
            now.state[q] = 3;
        }
        if (now.gold[pair[0]] == 9 || now.gold[pair[1]] == 9) {
            now.state[q] = 3;
        }
    }

    private static List<Integer> cutOf(List<Integer> figures) {
        return IntStream.range(0, 24).map(d -> d < figures.size() ? figures.get(d) : 3).boxed().toList();
    }

    private String sound(int text) {
        return fault(text) == -1 ? texts[text] : "";
    }

    private static List<String> parts(String text) {
        return text.isEmpty() ? List.of() : List.of(text.split(";"));
    }

    private World world() {
        List<Person> people = parts(sound(0)).stream().map(s -> new Person(s.charAt(0), s.charAt(1) - '0')).toList();
        List<Quarrel> quarrels = parts(sound(1)).stream()
                .map(s -> new Quarrel(s.charAt(0) - '0', s.charAt(1) - '0', s.charAt(2) - 'a')).toList();
        return new World(people, quarrels, cutOf(sound(2).chars().map(c -> c - '0').boxed().toList()),
                List.copyOf(events), -1);
    }

    private List<Behind> plain() {
        return days(world());
    }

    private static boolean in(int v, int least, int most) {
        return least <= v && v <= most;
    }

    private int finds(int number) {
        finding = number;
        return -10 - number;
    }

    // ---- people, quarrels, the glass, events

    int type(int text, int b) {
        if (!in(text, 0, 2) || !in(b, 0, 255)) {
            return -2;
        }
        if (texts[text].length() == MOST[text]) {
            return -4;
        }
        texts[text] += (char) b;
        return texts[text].length();
    }

    int wipe(int text) {
        if (!in(text, 0, 2)) {
            return -2;
        }
        int had = texts[text].length();
        texts[text] = "";
        return had;
    }

    int undo(int text) {
        if (!in(text, 0, 2)) {
            return -2;
        }
        if (texts[text].isEmpty()) {
            return -3;
        }
        texts[text] = texts[text].substring(0, texts[text].length() - 1);
        return texts[text].length();
    }

    int fault(int text) {
        if (!in(text, 0, 2)) {
            return -2;
        }
        for (int n = 1; n <= texts[text].length(); n++) {
            Matcher m = GRAMMAR[text].matcher(texts[text].substring(0, n));
            if (!m.matches() && !m.hitEnd()) {
                return n - 1;
            }
        }
        return GRAMMAR[text].matcher(texts[text]).matches() ? -1 : texts[text].length();
    }

    int person(int person, int what) {
        List<Person> p = world().people();
        if (!in(person, 0, p.size() - 1) || !in(what, 0, 1)) {
            return -2;
        }
        return what == 0 ? "cmh".indexOf(p.get(person).sort()) : p.get(person).temper();
    }

    int quarrel(int quarrel, int what) {
        List<Quarrel> q = world().quarrels();
        if (!in(quarrel, 0, q.size() - 1) || !in(what, 0, 2)) {
            return -2;
        }
        Quarrel u = q.get(quarrel);
        return new int[] {u.first(), u.whom(), u.day()}[what];
    }

    int glass(int day) {
        return in(day, 0, 23) ? world().cut().get(day) : -2;
    }

    int event(int kind, int day) {
        if (!in(kind, 0, 1) || !in(day, 0, 23)) {
            return -2;
        }
        if (events.size() == 8) {
            return -4;
        }
        events.add(new Event(kind, day));
        return events.size();
    }

    int back() {
        if (events.isEmpty()) {
            return -3;
        }
        events.remove(events.size() - 1);
        return events.size();
    }

    int read(int s) {
        if (!in(s, 0, 3)) {
            return -2;
        }
        if (rows[s] == null) {
            return finds(1);
        }
        int came = 0;
        while (came < Array.getLength(rows[s]) / 2
                && event(Array.getInt(rows[s], 2 * came), Array.getInt(rows[s], 2 * came + 1)) > 0) {
            came++;
        }
        return came;
    }

    // ---- days

    int stands(int day, int quarrel, int what) {
        if (!in(day, 0, 23) || !in(quarrel, 0, world().quarrels().size() - 1) || !in(what, 0, 2)) {
            return -2;
        }
        Behind b = plain().get(day);
        return List.of(b.state, b.heat, b.blows).get(what)[quarrel];
    }

    int at(int day, int person, int what) {
        if (!in(day, 0, 23) || !in(person, 0, world().people().size() - 1) || !in(what, 0, 2)) {
            return -2;
        }
        Behind b = plain().get(day);
        return List.of(b.gold, b.struck, b.striking).get(what)[person];
    }

    int stock(int day, int what) {
        if (!in(day, 0, 23) || !in(what, 0, 1)) {
            return -2;
        }
        Behind b = plain().get(day);
        return what == 0 ? b.stock : (int) Arrays.stream(b.state).filter(s -> s == 1 || s == 2).count();
    }

    int over(int quarrel) {
        if (!in(quarrel, 0, world().quarrels().size() - 1)) {
            return -2;
        }
        List<Behind> all = plain();
        return IntStream.range(0, 24).filter(d -> all.get(d).state[quarrel] == 3).findFirst().orElse(-1);
    }

    int mist(int what) {
        if (!in(what, 0, 1)) {
            return -2;
        }
        List<Behind> all = plain();
        for (int day = 0; day < 24; day++) {
            for (int p = 0; p < all.get(day).gold.length; p++) {
                if (all.get(day).gold[p] == 9) {
                    return what == 0 ? day : p;
                }
            }
        }
        return -1;
    }

    private static int wasteOf(World w) {
        int waste = 0;
        for (Behind b : days(w)) {
            for (boolean waited : b.waited) {
                waste += waited ? 1 : 0;
            }
        }
        return waste;
    }

    int waste() {
        return wasteOf(world());
    }

    int goldest() {
        int[] gold = plain().get(23).gold;
        int most = Arrays.stream(gold).max().orElse(-1);
        return IntStream.range(0, gold.length).filter(p -> gold[p] == most).findFirst().orElse(-1);
    }

    int peace() {
        int[] state = plain().get(23).state;
        return IntStream.range(0, state.length).filter(q -> state[q] == 3).map(q -> 1 << q).sum();
    }

    // ---- plans

    int chin(int quarrel, int what) {
        World w = world();
        if (!in(quarrel, 0, w.quarrels().size() - 1) || !in(what, 0, 1)) {
            return -2;
        }
        Quarrel u = w.quarrels().get(quarrel);
        return better(2, what, i -> -days(i == 0 ? w : w.withQuarrel(quarrel, new Quarrel(u.whom(), u.first(), u.day())))
                .get(23).blows[quarrel], -1);
    }

    int dawn(int quarrel, int what) {
        World w = world();
        if (!in(quarrel, 0, w.quarrels().size() - 1) || !in(what, 0, 1)) {
            return -2;
        }
        Quarrel u = w.quarrels().get(quarrel);
        return better(24, what, d -> days(w.withQuarrel(quarrel, new Quarrel(u.first(), u.whom(), d))).get(23).ended(), 1);
    }

    int monday(int what) {
        World w = world();
        return in(what, 0, 1) ? better(24, what, d -> -wasteOf(w.withMonday(d)), -1) : -2;
    }

    /** The least of 0 .. n-1 with the greatest worth, or that worth, by sign. */
    private static int better(int n, int what, ToIntFunction<Integer> worth, int sign) {
        List<Integer> worths = IntStream.range(0, n).boxed().map(worth::applyAsInt).toList();
        int most = worths.stream().mapToInt(i -> i).max().orElse(0);
        return what == 0 ? worths.indexOf(most) : sign * most;
    }

    int spare(int i) {
        if (!in(i, -1, 1)) {
            return -2;
        }
        List<List<Integer>> rowsToTry = new ArrayList<>(List.of(List.of()));
        for (int a = 0; a < events.size(); a++) {
            rowsToTry.add(List.of(a));
        }
        for (int a = 0; a < events.size(); a++) {
            for (int b = a + 1; b < events.size(); b++) {
                rowsToTry.add(List.of(a, b));
            }
        }
        World w = world();
        for (List<Integer> row : rowsToTry) {
            int[] state = days(w.withEvents(but(row))).get(23).state;
            if (Arrays.stream(state).allMatch(s -> s >= 3)) {
                return i == -1 ? row.size() : i < row.size() ? row.get(i) : -1;
            }
        }
        return -1;
    }

    private List<Event> but(List<Integer> out) {
        return IntStream.range(0, events.size()).filter(e -> !out.contains(e)).mapToObj(events::get).toList();
    }

    // ---- seen, chance, years

    int seen(int day, int person, int gold) {
        if (!in(day, 0, 23) || !in(person, 0, 7) || !in(gold, 0, 9)) {
            return -2;
        }
        if (seens.size() == 8) {
            return -4;
        }
        seens.add(new Seen(day, person, gold));
        return seens.size();
    }

    int forget() {
        int had = seens.size();
        seens.clear();
        return had;
    }

    private boolean comesOut(World w) {
        List<Behind> all = days(w);
        return seens.stream().allMatch(s -> s.person() < w.people().size()
                && all.get(s.day()).gold[s.person()] == s.gold());
    }

    private static int bits(int from, int to, Function<Integer, Boolean> holds) {
        return IntStream.rangeClosed(from, to).filter(holds::apply).map(i -> 1 << i).sum();
    }

    int never() {
        World w = world();
        return bits(0, events.size() - 1, e -> comesOut(w.withEvents(but(List.of(e)))));
    }

    int was(int person, int what) {
        World w = world();
        if (!in(person, 0, w.people().size() - 1) || !in(what, 0, 1)) {
            return -2;
        }
        Person p = w.people().get(person);
        return what == 0 ? bits(0, 2, s -> comesOut(w.withPerson(person, new Person("cmh".charAt(s), p.temper()))))
                : bits(1, 9, t -> comesOut(w.withPerson(person, new Person(p.sort(), t))));
    }

    int ask(int person) {
        World w = world();
        if (!in(person, 0, w.people().size() - 1)) {
            return -2;
        }
        int tempers = was(person, 1);
        List<List<Behind>> ways = new ArrayList<>();
        for (int t = 1; t <= 9; t++) {
            if ((tempers & 1 << t) != 0) {
                ways.add(days(w.withPerson(person, new Person(w.people().get(person).sort(), t))));
            }
        }
        return better(24, 0, d -> {
            Map<Integer, Long> groups = ways.stream()
                    .collect(Collectors.groupingBy(way -> way.get(d).gold[person], HashMap::new, Collectors.counting()));
            return (int) -groups.values().stream().mapToLong(g -> g).max().orElse(0);
        }, -1);
    }

    long chance(int c, int quarrel, int what) {
        World w = world();
        if (!in(c, 0, 16) || !in(quarrel, 0, w.quarrels().size() - 1) || !in(what, 0, 1)) {
            return Long.MIN_VALUE + 2;
        }
        BigInteger above = ways(w, new ArrayList<>(), 0, c, quarrel);
        BigInteger below = BigInteger.valueOf(16).pow(events.size());
        BigInteger common = above.gcd(below);
        return (what == 0 ? above : below).divide(common).longValueExact();
    }

    /** Of 16 to the number of events ways, those that end the quarrel, event by event. */
    private BigInteger ways(World w, List<Event> are, int e, int c, int quarrel) {
        if (e == events.size()) {
            return days(w.withEvents(are)).get(23).state[quarrel] == 3 ? BigInteger.ONE : BigInteger.ZERO;
        }
        List<Event> more = new ArrayList<>(are);
        more.add(events.get(e));
        return ways(w, more, e + 1, c, quarrel).multiply(BigInteger.valueOf(c))
                .add(ways(w, are, e + 1, c, quarrel).multiply(BigInteger.valueOf(16 - c)));
    }

    int years(int seed, int n, int what) {
        if (!in(n, 0, 24) || !in(what, 0, 1)) {
            return -2;
        }
        List<Integer> figures = new ArrayList<>();
        BigInteger two32 = BigInteger.ONE.shiftLeft(32);
        BigInteger s = BigInteger.valueOf(seed);
        for (int i = 0; i < n; i++) {
            s = s.multiply(BigInteger.valueOf(1103515245)).add(BigInteger.valueOf(12345)).mod(two32);
            figures.add(s.shiftRight(16).mod(BigInteger.TEN).intValue());
        }
        Behind last = days(world().withCut(cutOf(figures))).get(23);
        return what == 0 ? last.ended() : Arrays.stream(last.gold).sum();
    }

    // ---- sheets

    private static final List<Class<?>> FORMS = List.of(byte.class, short.class, int.class);

    private static void put(Object row, int i, int v) {
        if (row instanceof byte[] b) {
            b[i] = (byte) v;
        } else if (row instanceof short[] h) {
            h[i] = (short) v;
        } else if (row instanceof int[] n) {
            n[i] = v;
        }
    }

    int sheet(int s, int form, int n) {
        if (!in(s, 0, 3) || !in(form, 0, 2) || n > 60) {
            return -2;
        }
        if (n < 0) {
            return finds(5);
        }
        rows[s] = Array.newInstance(FORMS.get(form), n);
        return n;
    }

    int lose(int s) {
        if (!in(s, 0, 3)) {
            return -2;
        }
        if (rows[s] == null) {
            return finds(1);
        }
        int had = Array.getLength(rows[s]);
        rows[s] = null;
        return had;
    }

    private int look(int s, int form, int i) {
        if (!in(s, 0, 3) || !in(form, 0, 2)) {
            return -2;
        }
        if (rows[s] == null) {
            return finds(1);
        }
        if (rows[s].getClass().getComponentType() != FORMS.get(form)) {
            return finds(3);
        }
        return in(i, 0, Array.getLength(rows[s]) - 1) ? 0 : finds(2);
    }

    int lay(int s, int form, int i, int v) {
        int look = look(s, form, i);
        if (look != 0) {
            return look;
        }
        put(rows[s], i, v);
        return 1;
    }

    int get(int s, int form, int i) {
        return look(s, form, i) != 0 ? Integer.MIN_VALUE : Array.getInt(rows[s], i);
    }

    int copy(int s, int i, int t, int j, int n) {
        if (!in(s, 0, 3) || !in(t, 0, 3)) {
            return -2;
        }
        if (rows[s] == null || rows[t] == null) {
            return finds(1);
        }
        if (rows[s].getClass() != rows[t].getClass()) {
            return finds(4);
        }
        if (i < 0 || j < 0 || n < 0 || (long) i + n > Array.getLength(rows[s]) || (long) j + n > Array.getLength(rows[t])) {
            return finds(2);
        }
        System.arraycopy(rows[s], i, rows[t], j, n);
        return 1;
    }

    int write(int person, int s) {
        if (!in(person, 0, world().people().size() - 1) || !in(s, 0, 3)) {
            return -2;
        }
        if (rows[s] == null) {
            return finds(1);
        }
        int many = Math.min(24, Array.getLength(rows[s]));
        List<Behind> all = plain();
        for (int day = 0; day < many; day++) {
            put(rows[s], day, all.get(day).gold[person]);
        }
        return many;
    }

    int count(int what) {
        int[] all = {world().people().size(), world().quarrels().size(), sound(2).length(), texts[0].length(),
            texts[1].length(), texts[2].length(), events.size(), seens.size(), finding};
        return in(what, 0, 8) ? all[what] : -2;
    }
}
