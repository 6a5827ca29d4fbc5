import java.util.Random;

/** Long runs of calls by chance, the same ones on a LilyQuarrels and on an Oracle: every answer must be the same. */
public final class OracleTest {
    private static final int RUNS = 400;
    private static final int CALLS = 500;
    private static final Due due = new Due();

    private final Random random;
    private final LilyQuarrels x = new LilyQuarrels();
    private final Oracle o = new Oracle();
    private final StringBuilder story = new StringBuilder();

    private OracleTest(int run) {
        random = new Random(run);
    }

    public static void main(String[] args) {
        for (int run = 0; run < RUNS; run++) {
            new OracleTest(run).run();
        }
        due.end();
    }

    private void run() {
        int calls = tellAll();
        while (calls < CALLS) {
            calls += random.nextInt(12) == 0 ? change() : look();
        }
    }

    private void same(String call, long got, long want) {
        story.append(call).append('\n');
        if (got != want) {
            System.out.println(story);
            story.setLength(0);
        }
        due.same(call, got, want);
    }

    /** A number from 0 to below n, now and then one that is not. */
    private int num(int n) {
        int[] odd = {-1, n, n + 1, -2, Integer.MIN_VALUE, Integer.MAX_VALUE};
        return random.nextInt(40) == 0 ? odd[random.nextInt(odd.length)] : random.nextInt(n);
    }

    private char one(String of) {
        return of.charAt(random.nextInt(of.length()));
    }

    // ---- telling

    private int type(int text, String bytes) {
        for (int i = 0; i < bytes.length(); i++) {
            int b = bytes.charAt(i);
            same("type(" + text + ", " + b + ")", x.type(text, b), o.type(text, b));
        }
        return bytes.length();
    }

    private String people() {
        StringBuilder s = new StringBuilder();
        int n = random.nextInt(9);
        String sorts = new String[] {"cmh", "ch", "c", "h", "cchhm"}[random.nextInt(5)];
        String tempers = new String[] {"123456789", "9", "12", "56789"}[random.nextInt(4)];
        for (int i = 0; i < n; i++) {
            s.append(i > 0 ? ";" : "").append(one(sorts)).append(one(tempers));
        }
        return s.toString();
    }

    private String quarrels(int people) {
        StringBuilder s = new StringBuilder();
        int n = random.nextInt(9);
        String who = "01234567".substring(0, Math.max(2, random.nextInt(5) == 0 ? 8 : people));
        String when = new String[] {"a", "abcd", "abcdefghijklmnopqrstuvwx", "klmno"}[random.nextInt(4)];
        for (int i = 0; i < n; i++) {
            s.append(i > 0 ? ";" : "").append(one(who)).append(one(who)).append(one(when));
        }
        return s.toString();
    }

    private String glass() {
        StringBuilder s = new StringBuilder();
        String figures = new String[] {"0", "01", "012", "0123456789", "0009"}[random.nextInt(5)];
        int n = random.nextInt(3) == 0 ? 24 : random.nextInt(25);
        for (int i = 0; i < n; i++) {
            s.append(one(figures));
        }
        return s.toString();
    }

    private int tellAll() {
        int calls = type(0, people());
        calls += type(1, quarrels(o.count(0)));
        calls += type(2, glass());
        int events = random.nextInt(4) == 0 ? 8 : random.nextInt(6);
        for (int i = 0; i < events; i++) {
            calls += event();
        }
        return calls;
    }

    private int event() {
        int kind = num(2);
        int day = num(24);
        same("event(" + kind + ", " + day + ")", x.event(kind, day), o.event(kind, day));
        return 1;
    }

    private int change() {
        int text = num(3);
        switch (random.nextInt(10)) {
            case 0:
                same("wipe(" + text + ")", x.wipe(text), o.wipe(text));
                String anew = text == 0 ? people() : text == 1 ? quarrels(o.count(0)) : text == 2 ? glass() : "";
                return 1 + type(text, anew);
            case 1:
                same("undo(" + text + ")", x.undo(text), o.undo(text));
                return 1;
            case 2:
                return type(text, String.valueOf(one("c5;0ahm7x")));
            case 3:
                int b = num(256);
                same("type(" + text + ", " + b + ")", x.type(text, b), o.type(text, b));
                same("undo(" + text + ")", x.undo(text), o.undo(text));
                return 2;
            case 4:
                same("back()", x.back(), o.back());
                return 1;
            case 5:
                same("forget()", x.forget(), o.forget());
                return 1;
            case 6:
                return readEvents();
            case 7:
                return seen();
            default:
                return event();
        }
    }

    private int readEvents() {
        int s = random.nextInt(4);
        int form = random.nextInt(3);
        int n = random.nextInt(9);
        same("sheet(" + s + ", " + form + ", " + n + ")", x.sheet(s, form, n), o.sheet(s, form, n));
        for (int i = 0; i < n; i++) {
            int v = i % 2 == 0 ? num(2) : num(24);
            same("lay(" + s + ", " + form + ", " + i + ", " + v + ")", x.lay(s, form, i, v), o.lay(s, form, i, v));
        }
        same("read(" + s + ")", x.read(s), o.read(s));
        return n + 2;
    }

    /** Mostly what truly is, else hardly anything would ever come out so. */
    private int seen() {
        int day = num(24);
        int person = num(8);
        int gold = num(10);
        int true1 = o.at(day, person, 0);
        int told = random.nextInt(4) == 0 || true1 < 0 ? gold : true1;
        same("seen(" + day + ", " + person + ", " + told + ")", x.seen(day, person, told), o.seen(day, person, told));
        return 1;
    }

    // ---- looking

    private int look() {
        switch (random.nextInt(6)) {
            case 0:
                return sheets();
            case 1:
                return plans();
            case 2:
                return guesses();
            default:
                return days();
        }
    }

    private int days() {
        int day = num(24);
        int q = num(8);
        int what = num(3);
        same("stands(" + day + ", " + q + ", " + what + ")", x.stands(day, q, what), o.stands(day, q, what));
        same("at(" + day + ", " + q + ", " + what + ")", x.at(day, q, what), o.at(day, q, what));
        same("stock(" + day + ", " + what + ")", x.stock(day, what), o.stock(day, what));
        same("over(" + q + ")", x.over(q), o.over(q));
        same("mist(" + what + ")", x.mist(what), o.mist(what));
        same("waste()", x.waste(), o.waste());
        same("goldest()", x.goldest(), o.goldest());
        same("peace()", x.peace(), o.peace());
        same("glass(" + day + ")", x.glass(day), o.glass(day));
        same("person(" + q + ", " + what + ")", x.person(q, what), o.person(q, what));
        same("quarrel(" + q + ", " + what + ")", x.quarrel(q, what), o.quarrel(q, what));
        int text = num(3);
        same("fault(" + text + ")", x.fault(text), o.fault(text));
        int many = num(9);
        same("count(" + many + ")", x.count(many), o.count(many));
        return 13;
    }

    private int plans() {
        int q = num(8);
        int what = num(2);
        same("chin(" + q + ", " + what + ")", x.chin(q, what), o.chin(q, what));
        same("dawn(" + q + ", " + what + ")", x.dawn(q, what), o.dawn(q, what));
        same("monday(" + what + ")", x.monday(what), o.monday(what));
        int i = num(3) - 1;
        same("spare(" + i + ")", x.spare(i), o.spare(i));
        return 4;
    }

    private int guesses() {
        int p = num(8);
        int what = num(2);
        same("never()", x.never(), o.never());
        same("was(" + p + ", " + what + ")", x.was(p, what), o.was(p, what));
        same("ask(" + p + ")", x.ask(p), o.ask(p));
        int seed = random.nextInt();
        int n = num(25);
        same("years(" + seed + ", " + n + ", " + what + ")", x.years(seed, n, what), o.years(seed, n, what));
        int c = num(17);
        if (random.nextInt(3) == 0) {
            same("chance(" + c + ", " + p + ", " + what + ")", x.chance(c, p, what), o.chance(c, p, what));
        }
        return 5;
    }

    private int sheets() {
        int s = num(4);
        int t = num(4);
        int form = num(3);
        int n = num(random.nextInt(4) == 0 ? 61 : 8);
        int i = num(8);
        int j = num(8);
        int v = random.nextBoolean() ? random.nextInt() : random.nextInt(600) - 300;
        switch (random.nextInt(8)) {
            case 0:
                same("sheet(" + s + ", " + form + ", " + n + ")", x.sheet(s, form, n), o.sheet(s, form, n));
                break;
            case 1:
                if (random.nextInt(3) == 0) {
                    same("lose(" + s + ")", x.lose(s), o.lose(s));
                }
                break;
            case 2:
            case 3:
                same("lay(" + s + ", " + form + ", " + i + ", " + v + ")", x.lay(s, form, i, v), o.lay(s, form, i, v));
                break;
            case 4:
                same("copy(" + s + ", " + i + ", " + t + ", " + j + ", " + n + ")", x.copy(s, i, t, j, n),
                        o.copy(s, i, t, j, n));
                break;
            case 5:
                same("write(" + i + ", " + s + ")", x.write(i, s), o.write(i, s));
                break;
            default:
                same("get(" + s + ", " + form + ", " + i + ")", x.get(s, form, i), o.get(s, form, i));
        }
        same("count(8)", x.count(8), o.count(8));
        return 2;
    }
}
