import java.util.ArrayList;
import java.util.List;
import java.util.function.ToLongFunction;

/** "Refusals .. change nothing (FINDINGS but count() 8)": every refusal of every call, on a hill where all is full. */
public final class RefusalsTest {
    private static final Due due = new Due();
    private static final int LEAST = Integer.MIN_VALUE, MOST = Integer.MAX_VALUE;
    private static final long BAD_LONG = Long.MIN_VALUE + 2;
    private static final int NO_FINDING = 0;

    public static void main(String[] args) {
        badNumbers();
        full();
        not();
        findings();
        looksChangeNothing();
        due.end();
    }

    /** Sheets 0 bytes, 1 shorts, 2 ints, of 3 items each; 3 lost. Texts, events and what was seen are full. */
    private static LilyQuarrels fullHill() {
        LilyQuarrels x = Told.of("c4;h9;m3;h1;c9;h2;m8;h5", "01a;13b;24c;50d;67e;31f;44g;72x", "120301202100120030120012");
        int[][] events = {{0, 3}, {1, 5}, {0, 9}, {1, 5}, {0, 23}, {1, 0}, {0, 12}, {1, 22}};
        for (int i = 0; i < 8; i++) {
            x.event(events[i][0], events[i][1]);
            x.seen(3 * i, i, x.at(3 * i, i, 0));
        }
        for (int form = 0; form < 3; form++) {
            x.sheet(form, form, 3);
            for (int i = 0; i < 3; i++) {
                x.lay(form, form, i, 10 * form + i + 1);
            }
        }
        return x;
    }

    /** All that can be told of an object without a refusal, but for its latest finding. */
    private static List<Long> told(LilyQuarrels x, boolean sheets) {
        List<Long> all = new ArrayList<>();
        all.add(x.digest());
        for (int what = 0; what < 8; what++) {
            all.add((long) x.count(what));
        }
        for (int form = 0; sheets && form < 3; form++) {
            for (int i = 0; i < 3; i++) {
                all.add((long) x.get(form, form, i));
            }
        }
        return all;
    }

    private static void refused(String call, LilyQuarrels x, boolean sheets, ToLongFunction<LilyQuarrels> make,
            long want, int finding) {
        List<Long> before = told(x, sheets);
        int latest = x.count(8);
        due.same(call, make.applyAsLong(x), want);
        due.same(call + ": the latest finding", x.count(8), finding == NO_FINDING ? latest : finding);
        due.yes(call + ": nothing is changed", told(x, sheets).equals(before));
        if (sheets) {
            due.same(call + ": sheet 3 is still lost", x.lose(3), -11);
        }
    }

    private static void onFullHill(String call, ToLongFunction<LilyQuarrels> make, long want, int finding) {
        refused(call, fullHill(), true, make, want, finding);
        LilyQuarrels later = fullHill();
        later.sheet(0, 0, -1);
        refused(call + " behind a finding", later, true, make, want, finding);
    }

    private static void bad(String call, ToLongFunction<LilyQuarrels> make) {
        onFullHill(call, make, -2, NO_FINDING);
    }

    private static void badNumbers() {
        for (int b : new int[] {LEAST, -1, MOST}) {
            bad("type text", x -> x.type(b, 'c'));
            bad("type byte", x -> x.type(0, b));
            bad("wipe", x -> x.wipe(b));
            bad("undo", x -> x.undo(b));
            bad("fault", x -> x.fault(b));
            bad("person", x -> x.person(b, 0));
            bad("person what", x -> x.person(0, b));
            bad("quarrel", x -> x.quarrel(b, 0));
            bad("quarrel what", x -> x.quarrel(0, b));
            bad("glass", x -> x.glass(b));
            bad("event kind", x -> x.event(b, 0));
            bad("event day", x -> x.event(0, b));
            bad("read", x -> x.read(b));
            bad("stands day", x -> x.stands(b, 0, 0));
            bad("stands quarrel", x -> x.stands(0, b, 0));
            bad("stands what", x -> x.stands(0, 0, b));
            bad("at day", x -> x.at(b, 0, 0));
            bad("at person", x -> x.at(0, b, 0));
            bad("at what", x -> x.at(0, 0, b));
            bad("stock day", x -> x.stock(b, 0));
            bad("stock what", x -> x.stock(0, b));
            bad("over", x -> x.over(b));
            bad("mist", x -> x.mist(b));
            bad("chin quarrel", x -> x.chin(b, 0));
            bad("chin what", x -> x.chin(0, b));
            bad("dawn quarrel", x -> x.dawn(b, 0));
            bad("dawn what", x -> x.dawn(0, b));
            bad("monday", x -> x.monday(b));
            bad("seen day", x -> x.seen(b, 0, 0));
            bad("seen person", x -> x.seen(0, b, 0));
            bad("seen gold", x -> x.seen(0, 0, b));
            bad("was person", x -> x.was(b, 0));
            bad("was what", x -> x.was(0, b));
            bad("ask", x -> x.ask(b));
            onFullHill("chance c", x -> x.chance(b, 0, 0), BAD_LONG, NO_FINDING);
            onFullHill("chance quarrel", x -> x.chance(5, b, 0), BAD_LONG, NO_FINDING);
            onFullHill("chance what", x -> x.chance(5, 0, b), BAD_LONG, NO_FINDING);
            bad("years n", x -> x.years(7, b, 0));
            bad("years what", x -> x.years(7, 20, b));
            bad("sheet which", x -> x.sheet(b, 0, 1));
            bad("sheet form", x -> x.sheet(0, b, 1));
            bad("lose", x -> x.lose(b));
            bad("lay which", x -> x.lay(b, 0, 0, 9));
            bad("lay form", x -> x.lay(0, b, 0, 9));
            onFullHill("get which", x -> x.get(b, 0, 0), LEAST, NO_FINDING);
            onFullHill("get form", x -> x.get(0, b, 0), LEAST, NO_FINDING);
            bad("copy from", x -> x.copy(b, 0, 1, 0, 1));
            bad("copy to", x -> x.copy(0, 0, b, 0, 1));
            bad("write person", x -> x.write(b, 0));
            bad("write sheet", x -> x.write(0, b));
            bad("count", x -> x.count(b));
        }
        bad("spare above", x -> x.spare(2));
        bad("spare below", x -> x.spare(-2));
        bad("sheet of 61", x -> x.sheet(0, 0, 61));
    }

    private static void full() {
        for (int text = 0; text < 3; text++) {
            int t = text;
            onFullHill("type a full text", x -> x.type(t, '1'), -4, NO_FINDING);
        }
        onFullHill("a ninth event", x -> x.event(1, 2), -4, NO_FINDING);
        onFullHill("a ninth seen", x -> x.seen(1, 2, 3), -4, NO_FINDING);
    }

    private static void not() {
        for (int text = 0; text < 3; text++) {
            int t = text;
            refused("undo an empty text", new LilyQuarrels(), false, x -> x.undo(t), -3, NO_FINDING);
        }
        refused("back without events", new LilyQuarrels(), false, LilyQuarrels::back, -3, NO_FINDING);
    }

    private static void findings() {
        onFullHill("read NULL", x -> x.read(3), -11, 1);
        onFullHill("lose NULL", x -> x.lose(3), -11, 1);
        onFullHill("lay NULL", x -> x.lay(3, 0, 0, 9), -11, 1);
        onFullHill("get NULL", x -> x.get(3, 0, 0), LEAST, 1);
        onFullHill("copy from NULL", x -> x.copy(3, 0, 0, 0, 1), -11, 1);
        onFullHill("copy to NULL", x -> x.copy(0, 0, 3, 0, 1), -11, 1);
        onFullHill("write NULL", x -> x.write(0, 3), -11, 1);
        onFullHill("lay INDEX", x -> x.lay(0, 0, 3, 9), -12, 2);
        onFullHill("get INDEX", x -> x.get(1, 1, -1), LEAST, 2);
        onFullHill("copy INDEX", x -> x.copy(2, 0, 2, 1, 3), -12, 2);
        onFullHill("lay CAST", x -> x.lay(0, 1, 0, 9), -13, 3);
        onFullHill("get CAST", x -> x.get(2, 0, 0), LEAST, 3);
        onFullHill("copy STORE", x -> x.copy(0, 0, 1, 0, 1), -14, 4);
        for (int n : new int[] {-1, LEAST}) {
            onFullHill("sheet SIZE of a row", x -> x.sheet(0, 0, n), -15, 5);
            onFullHill("sheet SIZE of a lost one", x -> x.sheet(3, 0, n), -15, 5);
        }
    }

    /** A look is no refusal, but it must change as little. */
    private static void looksChangeNothing() {
        LilyQuarrels x = fullHill();
        List<Long> before = told(x, true);
        for (int i = 0; i < 8; i++) {
            for (int what = 0; what < 2; what++) {
                x.chin(i, what);
                x.dawn(i, what);
                x.was(i, what);
                x.chance(2 * i + what, i, what);
                x.years(i, 3 * i, what);
            }
            x.ask(i);
        }
        for (int what = 0; what < 2; what++) {
            x.monday(what);
            x.spare(what);
            x.mist(what);
        }
        x.never();
        due.yes("looks change nothing", told(x, true).equals(before));
        due.same("nor is there a finding", x.count(8), 0);
    }
}
