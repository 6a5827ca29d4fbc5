/** Promises 37 and 38: count, digest. */
public final class CountDigestTest {
    private static final Due due = new Due();

    public static void main(String[] args) {
        counts();
        digestOf("new", new LilyQuarrels());
        digestOf("one", Told.of("c4;h5", "01a", "12"));
        digestOf("faulty", Told.of("c4;h", "01a;", "12x"));
        digestOf("many", many());
        digestOf("one that spares two events", sparing());
        digestOf("one whose twentieth lot tells", byLots());
        due.end();
    }

    private static void counts() {
        LilyQuarrels x = Told.of("c4;h5;m1", "01a;10b", "1234");
        x.event(0, 1);
        x.seen(0, 0, 0);
        x.seen(0, 0, 0);
        x.lose(0);
        int[] want = {3, 2, 4, 8, 7, 4, 1, 2, 1};
        for (int what = 0; what < 9; what++) {
            due.same("count " + what, x.count(what), want[what]);
        }
        for (int wrong : new int[] {-1, 9, Integer.MAX_VALUE, Integer.MIN_VALUE}) {
            due.same("count " + wrong, x.count(wrong), -2);
        }
        x.type(0, 'x');
        x.type(1, 'x');
        x.type(2, 'x');
        int[] faulty = {0, 0, 0, 9, 8, 5};
        for (int what = 0; what < 6; what++) {
            due.same("faulty count " + what, x.count(what), faulty[what]);
        }
    }

    private static LilyQuarrels many() {
        LilyQuarrels x = Told.of("c9;h9;m5;h1;c2;m9;h4;c7", "01o;23a;45b;67c;16d;70e;33f;42x", "20103");
        x.event(0, 16);
        x.event(1, 6);
        x.event(0, 20);
        x.event(1, 23);
        x.event(0, 7);
        x.seen(3, 7, x.at(3, 7, 0));
        x.seen(12, 1, x.at(12, 1, 0));
        return x;
    }

    /** Here no two answers beside one another in a digest are alike by accident. */
    private static LilyQuarrels sparing() {
        LilyQuarrels x = Told.of("c5;c9;h2;c1;h6", "10m;44j;01s;41r;41e", "121000001000010100200000");
        events(x, new int[][] {{1, 21}, {1, 20}, {1, 3}, {1, 22}, {1, 8}, {0, 13}});
        due.same("two to spare", x.spare(-1), 2);
        due.yes("a monday of its own", x.monday(0) != 0 && x.monday(0) != x.monday(1));
        return x;
    }

    private static LilyQuarrels byLots() {
        LilyQuarrels x = Told.of("h2;h5;h1;h7;h5;h8;h5;h3", "30o;72l;03h;52m;56d;50f;34b;30b", "");
        events(x, new int[][] {{1, 16}, {1, 9}, {0, 21}, {1, 18}, {0, 11}, {1, 10}, {0, 21}, {1, 17}});
        due.yes("the twentieth lot", x.years(7, 20, 0) != x.years(7, 19, 0));
        due.same("eight quarrels", x.count(1), 8);
        return x;
    }

    private static void events(LilyQuarrels x, int[][] all) {
        for (int[] e : all) {
            x.event(e[0], e[1]);
        }
    }

    /** Longs that are gathered in the order that the document tells, from the other calls' answers. */
    private static void digestOf(String name, LilyQuarrels x) {
        java.util.List<Long> row = new java.util.ArrayList<>();
        for (int what = 0; what <= 7; what++) {
            row.add((long) x.count(what));
        }
        for (int text = 0; text < 3; text++) {
            row.add((long) x.fault(text));
        }
        int[] days = {0, 6, 12, 23};
        for (int q = 0; q < x.count(1); q++) {
            for (int what = 0; what < 3; what++) {
                row.add((long) x.quarrel(q, what));
            }
            for (int day : days) {
                for (int what = 0; what < 3; what++) {
                    row.add((long) x.stands(day, q, what));
                }
            }
            row.add((long) x.over(q));
            row.add((long) x.chin(q, 0));
            row.add((long) x.chin(q, 1));
            row.add((long) x.dawn(q, 0));
            row.add((long) x.dawn(q, 1));
            row.add(x.chance(5, q, 0));
            row.add(x.chance(5, q, 1));
        }
        for (int p = 0; p < x.count(0); p++) {
            row.add((long) x.person(p, 0));
            row.add((long) x.person(p, 1));
            for (int day : days) {
                for (int what = 0; what < 3; what++) {
                    row.add((long) x.at(day, p, what));
                }
            }
            row.add((long) x.was(p, 0));
            row.add((long) x.was(p, 1));
            row.add((long) x.ask(p));
        }
        for (int day = 0; day < 24; day++) {
            row.add((long) x.glass(day));
            row.add((long) x.stock(day, 0));
            row.add((long) x.stock(day, 1));
        }
        long[] rest = {x.mist(0), x.mist(1), x.waste(), x.goldest(), x.peace(), x.monday(0), x.monday(1),
            x.spare(-1), x.spare(0), x.never(), x.years(7, 20, 0), x.years(7, 20, 1)};
        for (long r : rest) {
            row.add(r);
        }
        long h = 17;
        for (long r : row) {
            h = 31 * h + r;
        }
        due.same("digest of " + name, x.digest(), h);
        due.same("digest again of " + name, x.digest(), h);
    }
}
