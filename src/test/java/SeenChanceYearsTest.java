/** Promises 24 to 30: seen, forget, never, was, ask, chance, years. */
public final class SeenChanceYearsTest {
    private static final Due due = new Due();
    private static final long BAD_LONG = Long.MIN_VALUE + 2;

    public static void main(String[] args) {
        seenAndForgotten();
        never();
        sorts();
        tempers();
        ask();
        askOfAllTempers();
        chance();
        chanceOfAll();
        years();
        due.end();
    }

    private static void seenAndForgotten() {
        LilyQuarrels x = new LilyQuarrels();
        due.same("forget nothing", x.forget(), 0);
        int[][] wrong = {{-1, 0, 0}, {24, 0, 0}, {0, -1, 0}, {0, 8, 0}, {0, 0, -1}, {0, 0, 10}};
        for (int[] w : wrong) {
            due.same("seen wrong", x.seen(w[0], w[1], w[2]), -2);
        }
        for (int i = 1; i <= 8; i++) {
            due.same("seen", x.seen(23, 7, 9), i);
        }
        due.same("a ninth", x.seen(0, 0, 0), -4);
        due.same("bad ahead of full", x.seen(0, 0, 10), -2);
        due.same("count", x.count(7), 8);
        due.same("forget", x.forget(), 8);
        due.same("forgotten", x.count(7), 0);
        due.same("seen anew", x.seen(0, 0, 0), 1);
    }

    private static void never() {
        LilyQuarrels x = Told.of("c4;h5", "01a", "");
        due.same("no events", x.never(), 0);
        x.event(0, 2);
        x.event(1, 2);
        x.event(0, 23);
        due.same("nothing seen", x.never(), 7);
        x.seen(1, 0, 2);
        due.same("by any", x.never(), 7);
        x.seen(3, 0, 4);
        due.same("by the first alone", x.never(), 1);
        x.seen(3, 2, 0);
        due.same("somebody who is not there", x.never(), 0);
        x.forget();
        x.seen(23, 0, 6);
        due.same("by either rain", x.never(), 5);
        x.forget();
        x.seen(23, 0, 8);
        due.same("two would be needed", x.never(), 0);
    }

    private static void sorts() {
        LilyQuarrels x = Told.of("c4;h5", "01a", "");
        due.same("any sort", x.was(0, 0), 7);
        x.seen(1, 0, 1);
        due.same("hard", x.was(0, 0), 4);
        x.forget();
        x.seen(1, 0, 2);
        due.same("a carter", x.was(0, 0), 1);
        x.forget();
        x.seen(23, 0, 0);
        due.same("mild", x.was(0, 0), 2);
        due.same("or the other one", x.was(1, 0), 2);
        x.seen(23, 5, 0);
        due.same("not there", x.was(0, 0), 0);
        due.same("was -1", x.was(-1, 0), -2);
        due.same("was 2", x.was(2, 0), -2);
        due.same("was what -1", x.was(0, -1), -2);
        due.same("was what 2", x.was(0, 2), -2);
    }

    /** 4 and the temper are the blows, 10 at most: then the carter is golden. */
    private static void tempers() {
        LilyQuarrels x = Told.of("c4;h5", "01a", "");
        due.same("any temper", x.was(1, 1), 1022);
        x.seen(23, 1, 5);
        due.same("nine blows or more", x.was(1, 1), 992);
        x.seen(23, 0, 8);
        due.same("nine blows", x.was(1, 1), 32);
        due.same("of the carter", x.was(0, 1), 16);
        x.seen(23, 0, 9);
        due.same("never so", x.was(1, 1), 0);
    }

    private static void ask() {
        LilyQuarrels x = Told.of("c4;h5;m1", "01a", "");
        due.same("the hard one", x.ask(1), 8);
        due.same("the carter", x.ask(0), 9);
        due.same("one in no quarrel", x.ask(2), 0);
        LilyQuarrels y = Told.of("h9;c9;m1", "02a;01d", "");
        y.seen(23, 2, 1);
        due.same("any of nine tempers of the mild one", y.was(2, 1), 1022);
        due.same("no day tells more", y.ask(2), 0);
        x.seen(23, 1, 4);
        due.same("seven or eight blows: like gold until", x.ask(1), 0);
        x.forget();
        x.seen(23, 1, 3);
        due.same("five or six blows", x.was(1, 1), 6);
        due.same("no day tells them apart", x.ask(1), 0);
        x.forget();
        x.seen(6, 0, 6);
        due.same("all of six blows or more", x.was(0, 1), 1022);
        due.same("the carter still", x.ask(0), 9);
        x.seen(23, 2, 9);
        due.same("nothing is possible", x.ask(0), 0);
        due.same("ask -1", x.ask(-1), -2);
        due.same("ask 3", x.ask(3), -2);
    }

    /** Gold behind day 16: 0 by 3 tempers, 1 by 2, 2 by 4; behind day 18: 0 by 3, 1 by 2, 2 by 2, 3 by 2. */
    private static void askOfAllTempers() {
        LilyQuarrels x = Told.of("h7;h2", "01j", "");
        x.event(0, 15);
        due.same("four alike are more than three", x.ask(0), 18);
        x = Told.of("h9;c7", "01h", "");
        due.same("a gold of 9 by any temper", x.ask(1), 0);
    }

    private static void fraction(LilyQuarrels x, int c, int quarrel, long above, long below) {
        due.same("above by " + c, x.chance(c, quarrel, 0), above);
        due.same("below by " + c, x.chance(c, quarrel, 1), below);
    }

    /** From day 14 on the carter is golden just on day 23, if there is no rain. */
    private static void chance() {
        LilyQuarrels x = Told.of("c9;h9;m1", "01o;02a;22a;07a", "");
        fraction(x, 5, 0, 1, 1);
        x.event(0, 20);
        fraction(x, 5, 0, 11, 16);
        fraction(x, 4, 0, 3, 4);
        fraction(x, 8, 0, 1, 2);
        fraction(x, 0, 0, 1, 1);
        fraction(x, 16, 0, 0, 1);
        fraction(x, 5, 1, 1, 1);
        fraction(x, 5, 2, 0, 1);
        fraction(x, 5, 3, 0, 1);
        x.event(0, 21);
        fraction(x, 5, 0, 121, 256);
        fraction(x, 2, 0, 49, 64);
        x.event(0, 1);
        fraction(x, 5, 0, 121, 256);
        for (int wrong : new int[] {-1, 17, Integer.MAX_VALUE, Integer.MIN_VALUE}) {
            due.same("c " + wrong, x.chance(wrong, 0, 0), BAD_LONG);
            due.same("quarrel " + wrong, x.chance(5, wrong, 0), BAD_LONG);
            due.same("what " + wrong, x.chance(5, 0, wrong), BAD_LONG);
        }
        due.same("no such quarrel", x.chance(5, 4, 0), BAD_LONG);
        due.same("no such what", x.chance(5, 0, 2), BAD_LONG);
    }

    private static void chanceOfAll() {
        LilyQuarrels x = Told.of("c9;h9", "01o", "");
        for (int day = 16; day < 24; day++) {
            x.event(0, day);
        }
        fraction(x, 5, 0, 214358881L, 4294967296L);
        fraction(x, 15, 0, 1, 4294967296L);
        fraction(x, 16, 0, 0, 1);
        fraction(x, 12, 0, 1, 65536);
        x.back();
        fraction(x, 5, 0, 19487171L, 268435456L);
        Told.retype(x, 1, "01a");
        fraction(x, 5, 0, 1, 1);
    }

    /** Lots are told as a glass: both must come out alike. */
    private static void years() {
        for (int seed : new int[] {0, 1, 7, -1, 123456789, Integer.MIN_VALUE, Integer.MAX_VALUE}) {
            for (int n = 0; n <= 24; n++) {
                LilyQuarrels x = Told.of("c4;h5;h9;c9;m3", "01a;23b;12c;34d;02e", "000000000000000000000000");
                x.event(1, 2);
                x.event(0, 6);
                int ended = x.years(seed, n, 0);
                int gold = x.years(seed, n, 1);
                Told.retype(x, 2, Told.lots(seed, n));
                due.same("years ended " + seed + " " + n, ended, Integer.bitCount(x.peace()));
                due.same("years gold " + seed + " " + n, gold, Told.allGold(x));
            }
        }
        LilyQuarrels x = new LilyQuarrels();
        due.same("n -1", x.years(0, -1, 0), -2);
        due.same("n 25", x.years(0, 25, 0), -2);
        due.same("what -1", x.years(0, 0, -1), -2);
        due.same("what 2", x.years(0, 0, 2), -2);
    }
}
