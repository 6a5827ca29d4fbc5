/** Promises 12 to 19: stands, at, stock, over, mist, waste, goldest, peace. */
public final class DaysTest {
    private static final Due due = new Due();
    private static final String NO_LILIES = "000000000000000000000000";

    public static void main(String[] args) {
        aPlainQuarrel();
        endedByGold();
        waiting();
        waitingAndEnded();
        theMild();
        rains();
        frosts();
        stockAndOpen();
        voidOnes();
        inTheOrderOfNumbers();
        goldestAndMist();
        changesAreSeen();
        refusals();
        due.end();
    }

    /** Turn about from a heat of 9: nine blows, a lily each, 3 coming a day. */
    private static void aPlainQuarrel() {
        LilyQuarrels x = Told.of("c4;h5", "01a", "");
        for (int day = 0; day < 24; day++) {
            int blows = Math.min(9, day + 1);
            due.same("state " + day, x.stands(day, 0, 0), day < 8 ? 1 : 3);
            due.same("heat " + day, x.stands(day, 0, 1), 9 - blows);
            due.same("blows " + day, x.stands(day, 0, 2), blows);
            due.same("gold of the carter " + day, x.at(day, 0, 0), blows / 2 * 2);
            due.same("carter struck " + day, x.at(day, 0, 1), blows / 2);
            due.same("carter striking " + day, x.at(day, 0, 2), (blows + 1) / 2);
            due.same("gold of the hard " + day, x.at(day, 1, 0), (blows + 1) / 2);
            due.same("hard struck " + day, x.at(day, 1, 1), (blows + 1) / 2);
            due.same("hard striking " + day, x.at(day, 1, 2), blows / 2);
            due.same("stock " + day, x.stock(day, 0), day < 9 ? 2 * day + 2 : 20);
            due.same("open " + day, x.stock(day, 1), day < 8 ? 1 : 0);
        }
        due.same("over", x.over(0), 8);
        due.same("peace", x.peace(), 1);
        due.same("mist", x.mist(0), -1);
        due.same("mist who", x.mist(1), -1);
        due.same("waste", x.waste(), 0);
        due.same("goldest", x.goldest(), 0);
        due.same("an earlier day after a later one", x.stands(0, 0, 1), 8);
    }

    private static void endedByGold() {
        LilyQuarrels x = Told.of("c9;h9", "01a", "");
        due.same("gold before", x.at(8, 0, 0), 8);
        due.same("goes on at 8", x.stands(8, 0, 0), 1);
        due.same("9 at most", x.at(9, 0, 0), 9);
        due.same("ended by gold", x.stands(9, 0, 0), 3);
        due.same("heat is left", x.stands(9, 0, 1), 8);
        due.same("heat stays", x.stands(23, 0, 1), 8);
        due.same("over", x.over(0), 9);
        due.same("mist", x.mist(0), 9);
        due.same("mist who", x.mist(1), 0);
    }

    private static void waiting() {
        LilyQuarrels x = Told.of("h2;c3;h9", "01a;10a;20a", "000");
        due.same("hard waits", x.stands(0, 0, 0), 2);
        due.same("hard is hotter", x.stands(0, 0, 1), 6);
        due.same("hard hotter again", x.stands(2, 0, 1), 8);
        due.same("carter waits", x.stands(2, 1, 0), 2);
        due.same("carter as hot", x.stands(2, 1, 1), 5);
        due.same("no blows", x.stands(2, 0, 2), 0);
        due.same("open while waiting", x.stock(2, 1), 3);
        due.same("a lily for each", x.stands(3, 0, 0), 1);
        due.same("a lily for each", x.stands(3, 2, 0), 1);
        due.same("waste", x.waste(), 9);
        x = Told.of("h9;c9;h8", "01a;20a", "00");
        due.same("18 at most", x.stands(0, 0, 1), 18);
        due.same("up to 18", x.stands(0, 1, 1), 18);
        due.same("no more than 18", x.stands(1, 1, 1), 18);
        x = Told.of("h1;h1", "01x", NO_LILIES);
        due.same("waits on the last day", x.waste(), 1);
        due.same("not ended", x.over(0), -1);
        due.same("no peace", x.peace(), 0);
    }

    /** The second quarrel finds no lily on day 8, and one of both is golden to the waist by then. */
    private static void waitingAndEnded() {
        LilyQuarrels x = Told.of("h9;c9;h1", "01a;21i", "111111111");
        due.same("the first is ended", x.over(0), 8);
        due.same("not begun", x.stands(7, 1, 0), 0);
        due.same("heat before it begins", x.stands(7, 1, 1), 10);
        due.same("of several the greatest", x.stands(8, 1, 0), 3);
        due.same("it waited too", x.stands(8, 1, 1), 11);
        due.same("waste", x.waste(), 1);
        due.same("over", x.over(1), 8);
        due.same("peace", x.peace(), 3);
        due.same("mist", x.mist(0), 8);
        due.same("mist who", x.mist(1), 1);
    }

    private static void theMild() {
        LilyQuarrels x = Told.of("m2;c3", "01a", NO_LILIES);
        due.same("mild first: cooler", x.stands(0, 0, 1), 4);
        due.same("it does not wait", x.stands(0, 0, 0), 1);
        due.same("no blow at all", x.stands(23, 0, 2), 0);
        due.same("over", x.over(0), 4);
        due.same("no waste", x.waste(), 0);
        x = Told.of("m2;c3", "10a", "");
        due.same("mild struck: cooler by 3", x.stands(0, 0, 1), 2);
        due.same("gold of the mild", x.at(0, 0, 0), 1);
        due.same("then the mild's turn", x.stands(1, 0, 1), 1);
        due.same("one blow", x.stands(23, 0, 2), 1);
        due.same("over", x.over(0), 2);
        due.same("a lily used", x.stock(1, 0), 5);
        x = Told.of("m1;c1", "10a", "");
        due.same("0, not below", x.stands(0, 0, 1), 0);
        due.same("ended", x.over(0), 0);
    }

    private static void rains() {
        LilyQuarrels x = Told.of("c4;h5", "01a", "");
        x.event(0, 5);
        due.same("ahead of the rain", x.at(4, 0, 0), 4);
        due.same("rain, then a blow", x.at(5, 0, 0), 4);
        due.same("everybody", x.at(5, 1, 0), 1);
        due.same("struck as often", x.at(5, 1, 1), 3);
        x.event(0, 5);
        due.same("two rains", x.at(5, 0, 0), 2);
        due.same("0 at least", x.at(5, 1, 0), 0);
        x.event(0, 5);
        due.same("three rains", x.at(5, 0, 0), 2);
        due.same("heat as ever", x.stands(5, 0, 1), 3);
        due.same("stock as ever", x.stock(5, 0), 12);
        x = Told.of("c9;h9", "01a", "");
        x.event(0, 9);
        due.same("rain ahead of blows", x.stands(9, 0, 0), 1);
        x.back();
        x.event(0, 10);
        due.same("ended for good", x.stands(10, 0, 0), 3);
        due.same("less golden", x.at(10, 0, 0), 7);
        due.same("mist behind a day", x.mist(0), 9);
    }

    private static void frosts() {
        LilyQuarrels x = Told.of("", "", "94");
        x.event(1, 0);
        due.same("none come", x.stock(0, 0), 0);
        due.same("the next day", x.stock(1, 0), 4);
        x.event(1, 0);
        due.same("two frosts", x.stock(1, 0), 4);
        x.event(1, 2);
        due.same("what is there stays", x.stock(2, 0), 4);
        x.back();
        due.same("no frost", x.stock(2, 0), 7);
    }

    private static void stockAndOpen() {
        LilyQuarrels x = Told.of("", "", "999");
        due.same("stock", x.stock(1, 0), 18);
        due.same("20 at most", x.stock(2, 0), 20);
        due.same("20 still", x.stock(23, 0), 20);
        x = Told.of("h9;h9;h9", "01a;12c;21x;00a;07b", "");
        due.same("open on 0", x.stock(0, 1), 1);
        due.same("open on 1", x.stock(1, 1), 1);
        due.same("open on 2", x.stock(2, 1), 2);
        due.same("begins on x", x.stands(22, 2, 0), 0);
        due.same("begun on x", x.stands(23, 2, 2), 1);
    }

    private static void voidOnes() {
        LilyQuarrels x = Told.of("h9;h9", "00a;02a;20a;01a", "");
        for (int quarrel = 0; quarrel < 3; quarrel++) {
            due.same("void " + quarrel, x.stands(0, quarrel, 0), 4);
            due.same("void heat " + quarrel, x.stands(0, quarrel, 1), 0);
            due.same("void blows " + quarrel, x.stands(23, quarrel, 2), 0);
            due.same("void over " + quarrel, x.over(quarrel), -1);
        }
        due.same("one lily used", x.stock(0, 0), 2);
        due.same("one open", x.stock(0, 1), 1);
        due.same("peace", x.peace(), 8);
        Told.type(x, 0, ";c1");
        due.same("void no more", x.stands(0, 1, 0), 1);
    }

    private static void inTheOrderOfNumbers() {
        LilyQuarrels x = Told.of("h5;h5;h5", "01b;12a;20a", "11" + NO_LILIES.substring(2));
        due.same("the first of those begun", x.stands(0, 1, 2), 1);
        due.same("none left", x.stands(0, 2, 0), 2);
        due.same("the least number", x.stands(1, 0, 2), 1);
        due.same("none left for 1", x.stands(1, 1, 0), 2);
        due.same("none left for 2", x.stands(1, 2, 0), 2);
        due.same("waste of two days", x.waste() - 3 * 22, 3);
    }

    private static void goldestAndMist() {
        LilyQuarrels x = Told.of("h1;h1;h1", "", "");
        due.same("of like ones the least", x.goldest(), 0);
        Told.type(x, 1, "12a");
        due.same("one of both", x.goldest(), 1);
        due.same("each once", x.at(23, 2, 0), 1);
        x.event(0, 1);
        due.same("the one that is struck later", x.goldest(), 1);
        x = Told.of("m1;h9;h1", "12a", "");
        due.same("like ones", x.goldest(), 1);
        x = Told.of("h1;h1;h1", "02x", "");
        due.same("the last", x.goldest(), 2);
        due.same("nobody", Told.of("", "01a", "").goldest(), -1);
        x = Told.of("h9;c9;h9;c9", "23a;01a", "9999");
        due.same("mist of two at once", x.mist(0), 8);
        due.same("the least such", x.mist(1), 1);
        x = Told.of("h9;c9;h9;c9", "23a;01b", "9999");
        due.same("mist of the first day", x.mist(0), 8);
        due.same("who is first so", x.mist(1), 3);
    }

    private static void changesAreSeen() {
        LilyQuarrels x = Told.of("c4;h5", "01a", "");
        due.same("heat", x.stands(0, 0, 1), 8);
        x.undo(0);
        x.type(0, '9');
        due.same("another temper", x.stands(0, 0, 1), 12);
        x.undo(1);
        x.type(1, 'b');
        due.same("another day", x.stands(0, 0, 0), 0);
        x.type(2, '0');
        x.type(2, '0');
        due.same("another glass", x.stands(1, 0, 0), 2);
        x.wipe(2);
        due.same("the glass wiped", x.stands(1, 0, 0), 1);
        x.event(1, 0);
        x.event(1, 1);
        due.same("frosts", x.stands(1, 0, 0), 2);
        x.back();
        due.same("a frost undone", x.stands(1, 0, 0), 1);
        x.sheet(0, 0, 2);
        x.lay(0, 0, 0, 1);
        x.lay(0, 0, 1, 1);
        x.read(0);
        due.same("a frost that was read", x.stands(1, 0, 0), 2);
    }

    private static void refusals() {
        LilyQuarrels x = Told.of("c4;h5", "01a", "");
        for (int wrong : new int[] {-1, 24, Integer.MAX_VALUE, Integer.MIN_VALUE}) {
            due.same("stands day", x.stands(wrong, 0, 0), -2);
            due.same("stands quarrel", x.stands(0, wrong, 0), -2);
            due.same("stands what", x.stands(0, 0, wrong), -2);
            due.same("at day", x.at(wrong, 0, 0), -2);
            due.same("at person", x.at(0, wrong, 0), -2);
            due.same("at what", x.at(0, 0, wrong), -2);
            due.same("stock day", x.stock(wrong, 0), -2);
            due.same("stock what", x.stock(0, wrong), -2);
            due.same("over", x.over(wrong), -2);
            due.same("mist", x.mist(wrong), -2);
        }
        due.same("no such quarrel", x.stands(0, 1, 0), -2);
        due.same("no such what", x.stands(0, 0, 3), -2);
        due.same("no such person", x.at(0, 2, 0), -2);
        due.same("no such what", x.at(0, 0, 3), -2);
        due.same("no such what", x.stock(0, 2), -2);
        due.same("no such quarrel", x.over(1), -2);
        due.same("no such what", x.mist(2), -2);
    }
}
