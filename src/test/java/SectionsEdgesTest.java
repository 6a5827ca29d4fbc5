/** The sentences of the document's sections 2, 3 and 4 that name a boundary: a case for each, the sentence above it. */
public final class SectionsEdgesTest {
    private static final Due due = new Due();
    private static final String NO_LILIES = "000000000000000000000000";
    private static final String MANY_LILIES = "999999999999999999999999";
    private static final String EIGHT_HARD = "h9;h9;h9;h9;h9;h9;h9;h9";
    private static final String EIGHT_QUARRELS = "01a;23a;45a;67a;10a;32a;54a;76a";

    public static void main(String[] args) throws ReflectiveOperationException {
        Cases.run(SectionsEdgesTest.class);
        due.end();
    }

    private static void events(LilyQuarrels x, int[]... all) {
        for (int[] e : all) {
            x.event(e[0], e[1]);
        }
    }

    // ---- 2

    /** "what it is (0 .. 4 VOID; of several the greatest)" */
    private static void ofSeveralTheGreatest() {
        LilyQuarrels x = Told.of("h9;h9", "00x", "");
        due.same("void and not begun", x.stands(0, 0, 0), 4);
        x = Told.of("m1;c1", "10a", "");
        due.same("begun and ended", x.stands(0, 0, 0), 3);
        x = Told.of("h9;c9;h1", "01a;21i", "111111111");
        due.same("waited and ended", x.stands(8, 1, 0), 3);
        due.same("it did wait", x.waste(), 1);
    }

    /** "2 it WAITED on that DAY": not on the day behind, nor on the day ahead */
    private static void waitedOnThatDay() {
        LilyQuarrels x = Told.of("h9;c9", "01a", "101");
        due.same("the day ahead", x.stands(0, 0, 0), 1);
        due.same("the day", x.stands(1, 0, 0), 2);
        due.same("the day behind", x.stands(2, 0, 0), 1);
        due.same("asked again", x.stands(1, 0, 0), 2);
    }

    /** "3 ENDED": on that day and on all days behind it */
    private static void endedForGood() {
        LilyQuarrels x = Told.of("h1;h1", "01b", "");
        int[] want = {0, 1, 3};
        for (int day = 0; day < 24; day++) {
            due.same("day " + day, x.stands(day, 0, 0), want[Math.min(day, 2)]);
            due.same("blows " + day, x.stands(day, 0, 2), Math.min(day, 2));
        }
    }

    /** "HEAT (0 of a VOID one)" */
    private static void noHeatOfAVoidOne() {
        LilyQuarrels x = Told.of("h9;h8", "00a;02a;77a;01c", "");
        for (int quarrel = 0; quarrel < 3; quarrel++) {
            due.same("void", x.stands(0, quarrel, 1), 0);
            due.same("void in the end", x.stands(23, quarrel, 1), 0);
        }
        due.same("one that is not", x.stands(0, 3, 1), 17);
    }

    /** "Of a PERSON: GOLD; how often one was struck; how often one struck others": nothing for one in no quarrel */
    private static void somebodyInNoQuarrel() {
        LilyQuarrels x = Told.of("h9;h9;c9", "01a;22a", "");
        for (int what = 0; what < 3; what++) {
            due.same("nothing", x.at(23, 2, what), 0);
        }
        due.same("struck", x.at(23, 1, 1), 9);
        due.same("struck others", x.at(23, 1, 2), 8);
    }

    /** "Of a DAY: .. how many QUARRELS are open (begun, not ENDED, not VOID)" */
    private static void openOnes() {
        LilyQuarrels x = Told.of("h1;h1", "01b;00a", "");
        int[] want = {0, 1, 0, 0};
        for (int day = 0; day < 4; day++) {
            due.same("open behind " + day, x.stock(day, 1), want[day]);
        }
        due.same("none", new LilyQuarrels().stock(0, 1), 0);
        due.same("eight", Told.of(EIGHT_HARD, EIGHT_QUARRELS, NO_LILIES).stock(23, 1), 8);
    }

    /** "OVER of a QUARREL: the DAY on which it is ended; NONE" */
    private static void overFirstDayLastDayNone() {
        due.same("day 0", Told.of("m1;c1", "10a", "").over(0), 0);
        due.same("day 23", Told.of("h1;h1", "01w", "").over(0), 23);
        due.same("none", Told.of("h1;h1", "01x", "").over(0), -1);
        due.same("none of a void one", Told.of("h1;h1", "11a", "").over(0), -1);
    }

    /** "MIST: the first DAY behind which anybody has a GOLD of 9; the least such; NONE" */
    private static void mistLastDayNoneLeast() {
        LilyQuarrels x = Told.of("c9;h9", "01o", "");
        due.same("day 23", x.mist(0), 23);
        due.same("who", x.mist(1), 0);
        x = Told.of("c9;h9", "01p", "");
        due.same("8 behind day 23", x.at(23, 0, 0), 8);
        due.same("none", x.mist(0), -1);
        due.same("nobody", x.mist(1), -1);
        x = Told.of("h9;c9;h9;c9", "23a;01a", "9999");
        due.same("two at once", x.mist(0), 8);
        due.same("the least such", x.mist(1), 1);
        x.event(0, 9);
        due.same("the first day, though it is washed away", x.mist(0), 8);
        due.same("nobody is there", new LilyQuarrels().mist(0), -1);
    }

    /** "WASTE: on how many DAYS of how many QUARRELS together they WAIT" */
    private static void wasteNoneAndAll() {
        due.same("no quarrels", Told.of(EIGHT_HARD, "", NO_LILIES).waste(), 0);
        due.same("void ones", Told.of("h9", "00a;01a", NO_LILIES).waste(), 0);
        due.same("each day of all eight", Told.of(EIGHT_HARD, EIGHT_QUARRELS, NO_LILIES).waste(), 192);
        due.same("the last day alone", Told.of("h9;h9", "01x", NO_LILIES).waste(), 1);
        due.same("a mild one does not wait", Told.of("m9;h9", "01a", NO_LILIES).waste(), 0);
    }

    /** "GOLDEST: who has most GOLD behind DAY 23, of like ones the least; NONE: nobody is there" */
    private static void goldestLikeOnesNobody() {
        due.same("nobody", new LilyQuarrels().goldest(), -1);
        due.same("one without gold", Told.of("c1", "", "").goldest(), 0);
        due.same("eight without gold", Told.of(EIGHT_HARD, "", "").goldest(), 0);
        due.same("the eighth", Told.of(EIGHT_HARD, "07x", "").goldest(), 7);
        LilyQuarrels x = Told.of(EIGHT_HARD, "07x;16x", "");
        due.same("like ones", x.goldest(), 6);
        x = Told.of("c1;h9;h9", "20a;21x", "");
        due.same("behind day 23", x.goldest(), 0);
        events(x, new int[] {0, 23}, new int[] {0, 23}, new int[] {0, 23}, new int[] {0, 23}, new int[] {0, 23});
        due.same("behind the rains of day 23", x.goldest(), 1);
    }

    /** "PEACE: QUARRELS that are ENDED by DAY 23, as bits" */
    private static void peaceNoneAndAll() {
        due.same("no quarrels", new LilyQuarrels().peace(), 0);
        due.same("all eight", Told.of(EIGHT_HARD, EIGHT_QUARRELS, MANY_LILIES).peace(), 255);
        due.same("none of eight", Told.of(EIGHT_HARD, EIGHT_QUARRELS, NO_LILIES).peace(), 0);
        due.same("on day 23, and not by then", Told.of("h1;h1;h1;h1", "01w;23x", "").peace(), 1);
        due.same("the eighth alone", Told.of("h9;m1", "00a;00a;00a;00a;00a;00a;00a;01a", "").peace(), 128);
    }

    // ---- 3

    /** "CHIN .. so that there are fewest BLOWS in it by DAY 23, of like ones 0" */
    private static void chinLikeOnes() {
        LilyQuarrels x = Told.of("h5;h5;m5", "01a;10x;00a;02a;20a", "");
        due.same("like ones", x.chin(0, 0), 0);
        due.same("ten blows", x.chin(0, 1), 10);
        due.same("a blow on day 23 counts", x.chin(1, 1), 1);
        due.same("a void one", x.chin(2, 0), 0);
        due.same("no blows of a void one", x.chin(2, 1), 0);
        due.same("the other one", x.chin(3, 0), 1);
        due.same("as told", x.chin(4, 0), 0);
        due.same("without lilies", Told.of("h5;h5", "01a", NO_LILIES).chin(0, 1), 0);
    }

    /** "DAWN .. so that most QUARRELS are ENDED by DAY 23, of like ones the least" */
    private static void dawnLikeOnesAndTheLastDay() {
        LilyQuarrels x = Told.of("h1;h1", "01x", "");
        due.same("any day to 22: the least", x.dawn(0, 0), 0);
        due.same("one", x.dawn(0, 1), 1);
        x = Told.of("h1;h1", "01x", NO_LILIES);
        due.same("none on any day: the least", x.dawn(0, 0), 0);
        due.same("none", x.dawn(0, 1), 0);
        x = Told.of("h9;h9;h1;h1", "01a;23v", "000000000000000000000110");
        due.same("not before the other one has had both lilies", x.dawn(0, 0), 23);
        due.same("then that one is ended", x.dawn(0, 1), 1);
        due.same("all eight", Told.of(EIGHT_HARD, EIGHT_QUARRELS, MANY_LILIES).dawn(7, 1), 8);
    }

    /** "MONDAY .. (behind what is CUT, FROST or none, 20 at most), so that there is least WASTE, of like ones the least" */
    private static void mondayFullGlassFrostLikeOnes() {
        LilyQuarrels x = Told.of(EIGHT_HARD, "01v;23v;45v;67v;10v;32v;54v;76v", "999" + NO_LILIES.substring(3));
        due.same("20 for 24 turns", x.waste(), 4);
        due.same("no room for 5 more by day 21", x.monday(0), 22);
        due.same("then they are enough", x.monday(1), 0);
        x.event(1, 22);
        due.same("a frost does not touch them", x.monday(1), 0);
        x = Told.of("h9;h9", "01x", NO_LILIES);
        due.same("any day: the least", x.monday(0), 0);
        due.same("none", x.monday(1), 0);
        x = Told.of("h9;h9", "01a", NO_LILIES);
        due.same("five days less", x.monday(1), 19);
        due.same("192 less 5", Told.of(EIGHT_HARD, EIGHT_QUARRELS, NO_LILIES).monday(1), 187);
        due.same("no quarrels", new LilyQuarrels().monday(0), 0);
    }

    /** "SPARE: the fewest EVENTS (0 to 2)": each frost is in the way of two blows on days 22 and 23 */
    private static void spareNoneOneTwoNotThree() {
        LilyQuarrels x = Told.of("h1;h1", "01w", "000000000000000000000011");
        int[][] frosts = {{1, 22}, {1, 22}, {1, 23}};
        int[][] want = {{0, -1, -1}, {1, 0, -1}, {2, 0, 1}, {-1, -1, -1}};
        for (int n = 0; n <= 3; n++) {
            for (int i = -1; i < 2; i++) {
                due.same(n + " frosts, spare " + i, x.spare(i), want[n][i + 1]);
            }
            if (n < 3) {
                events(x, frosts[n]);
            }
        }
    }

    /** "the fewest": the last event alone, rather than the first two */
    private static void spareOneLateRatherThanTwo() {
        LilyQuarrels x = Told.of("h1;h1", "01w", "000000000000000000000011");
        events(x, new int[] {0, 22}, new int[] {0, 23}, new int[] {0, 1}, new int[] {0, 2}, new int[] {1, 1},
                new int[] {1, 2}, new int[] {0, 0}, new int[] {1, 22});
        due.same("one", x.spare(-1), 1);
        due.same("the eighth", x.spare(0), 7);
        due.same("no second", x.spare(1), -1);
    }

    /** "of like ones the least row (each more than the one ahead)": either both rains or both frosts must not be */
    private static void spareTheLeastRow() {
        int[][] all = {{0, 16}, {1, 15}, {1, 15}, {0, 20}};
        for (int without = 0; without < 16; without++) {
            LilyQuarrels x = Told.of("h7;c1", "10j", "100111000000100101101110");
            for (int e = 0; e < 4; e++) {
                if ((without >> e & 1) == 0) {
                    events(x, all[e]);
                }
            }
            boolean bothRains = (without & 9) == 9;
            boolean bothFrosts = (without & 6) == 6;
            due.same("without " + without, x.peace(), bothRains || bothFrosts ? 1 : 0);
        }
        LilyQuarrels x = Told.of("h7;c1", "10j", "100111000000100101101110");
        events(x, all);
        due.same("two", x.spare(-1), 2);
        due.same("0 ahead of 1", x.spare(0), 0);
        due.same("and 3", x.spare(1), 3);
    }

    /** "all QUARRELS that are not VOID": if there are none, nothing is to be spared */
    private static void spareOfVoidOnesAlone() {
        LilyQuarrels x = Told.of("h1;h1", "00a;07a", NO_LILIES);
        x.event(1, 0);
        due.same("void ones", x.spare(-1), 0);
        due.same("no quarrels", new LilyQuarrels().spare(-1), 0);
        due.same("no event is in the way", Told.of("h1;h1", "01a", NO_LILIES).spare(-1), -1);
    }

    // ---- 4

    /** "SEEN, 8 at most: behind a DAY the GOLD of a PERSON (0 to 7 ..) was so much (0 to 9)" */
    private static void seenEightAtMost() {
        LilyQuarrels x = new LilyQuarrels();
        int[][] wrong = {{-1, 0, 0}, {24, 0, 0}, {0, -1, 0}, {0, 8, 0}, {0, 0, -1}, {0, 0, 10}};
        for (int[] w : wrong) {
            due.same("wrong", x.seen(w[0], w[1], w[2]), -2);
        }
        due.same("the least", x.seen(0, 0, 0), 1);
        due.same("the most", x.seen(23, 7, 9), 2);
        for (int n = 3; n <= 8; n++) {
            due.same("seen", x.seen(0, 0, 0), n);
        }
        due.same("a ninth", x.seen(0, 0, 0), -4);
    }

    /** "of one that there is not it never comes out so" */
    private static void seenOfOneNotThere() {
        LilyQuarrels x = Told.of("c4;h5", "01a", "");
        x.event(0, 23);
        x.seen(0, 2, 0);
        due.same("never", x.never(), 0);
        due.same("sorts", x.was(0, 0), 0);
        due.same("tempers", x.was(1, 1), 0);
        Told.type(x, 0, ";m1");
        due.same("never, now that there is one", x.never(), 1);
        due.same("sorts, now", x.was(0, 0), 7);
        due.same("tempers, now", x.was(1, 1), 1022);
    }

    /** "NEVER: EVENTS each of which, had it alone not been, makes all that was SEEN come out so, as bits" */
    private static void neverNoneAndAll() {
        LilyQuarrels x = Told.of("c4;h5", "01a", "");
        due.same("no events", x.never(), 0);
        for (int i = 0; i < 8; i++) {
            x.event(0, 23);
        }
        due.same("nothing seen: all eight", x.never(), 255);
        x.seen(22, 0, 8);
        due.same("ahead of the rains", x.never(), 255);
        x.seen(23, 0, 8);
        due.same("each alone does not do", x.never(), 0);
    }

    /** "had it alone not been": the last of eight alone */
    private static void neverTheLastAlone() {
        LilyQuarrels x = Told.of("c4;h5", "01a", "");
        for (int i = 0; i < 7; i++) {
            x.event(0, 0);
        }
        x.event(0, 23);
        x.seen(23, 0, 8);
        due.same("the eighth", x.never(), 128);
    }

    /** "SORT of a PERSON: 0 c, 1 m, 2 h, in place of its own, likewise, as bits" */
    private static void sortsNoneAndAll() {
        LilyQuarrels x = Told.of("c4;h5", "01a", "");
        due.same("nothing seen", x.was(0, 0), 7);
        x.seen(1, 0, 1);
        due.same("not its own", x.was(0, 0), 4);
        x.seen(1, 0, 2);
        due.same("none", x.was(0, 0), 0);
    }

    /** "TEMPERS of a PERSON: 1 to 9, in place of its own, likewise, as bits (bit 1 on)" */
    private static void tempersNoneAndAll() {
        LilyQuarrels x = Told.of("h1;h9", "01a", "");
        due.same("nothing seen: bits 1 to 9", x.was(0, 1), 1022);
        x.seen(23, 0, 5);
        due.same("ten or eleven blows: 1 and 2", x.was(0, 1), 6);
        x.forget();
        x.seen(23, 0, 8);
        due.same("sixteen or seventeen, or eighteen: golden at seventeen", x.was(0, 1), 896);
        x.seen(23, 0, 0);
        due.same("none", x.was(0, 1), 0);
    }

    /** "ASK .. of like ones the least" */
    private static void askLikeOnes() {
        due.same("in no quarrel: any day", Told.of("h1;h9", "", "").ask(0), 0);
        due.same("without lilies: any day", Told.of("h1;h9", "01a", NO_LILIES).ask(1), 0);
        LilyQuarrels x = Told.of("h1;h9", "01x", "");
        due.same("on the last day: as on any", x.ask(1), 0);
        x.seen(0, 0, 9);
        due.same("no temper at all", x.ask(1), 0);
    }

    /** "ASK: the DAY behind which the greatest number .. is least": the rain of day 23 tells tempers 1 and 2 apart */
    private static void askTheLastDay() {
        LilyQuarrels x = Told.of("h1;h1", "01w", "");
        x.event(0, 23);
        due.same("1 ahead", x.at(22, 1, 0), 1);
        due.same("no day tells", x.ask(1), 0);
        x = Told.of("h1;h1", "01v", "");
        due.same("struck for the second time on day 23, unless it is ended", x.ask(1), 23);
    }

    /** "each of EVENTS is by c sixteenths (0 to 16)": 0 none of them, 16 all of them */
    private static void chanceNoneAndAll() {
        LilyQuarrels x = Told.of("c9;h9", "01o", "");
        due.same("no events, above", x.chance(9, 0, 0), 1);
        due.same("no events, below", x.chance(9, 0, 1), 1);
        for (int day = 16; day < 24; day++) {
            x.event(0, day);
        }
        due.same("0: above", x.chance(0, 0, 0), 1);
        due.same("0: below", x.chance(0, 0, 1), 1);
        due.same("16: above", x.chance(16, 0, 0), 0);
        due.same("16: below", x.chance(16, 0, 1), 1);
        due.same("1: above, 15 eight times", x.chance(1, 0, 0), 2562890625L);
        due.same("1: below, more than any int", x.chance(1, 0, 1), 4294967296L);
        due.same("-1", x.chance(-1, 0, 0), Long.MIN_VALUE + 2);
        due.same("17", x.chance(17, 0, 0), Long.MIN_VALUE + 2);
    }

    /** "n LOTS of 10 (0 to 24) are CUT, in place of those told (3 on later DAYS)" */
    private static void yearsNoneAndAll() {
        LilyQuarrels x = Told.of(EIGHT_HARD, "01a;23a;45a;67a", NO_LILIES);
        LilyQuarrels three = Told.of(EIGHT_HARD, "01a;23a;45a;67a", "");
        int gold = Told.allGold(three);
        due.same("no lots: 3 on every day", x.years(5, 0, 1), gold);
        due.same("no lots: ended", x.years(5, 0, 0), Integer.bitCount(three.peace()));
        due.same("no lots: any seed", x.years(-5, 0, 1), gold);
        due.yes("24 lots", x.years(5, 24, 1) >= 0);
        due.same("25 lots", x.years(5, 25, 1), -2);
        due.same("-1 lots", x.years(5, -1, 1), -2);
        due.same("those told stay", x.glass(0), 0);
        due.same("and the days", x.waste(), 96);
    }

    /** "n LOTS of 10 (0 to 24)": here lilies are short by day 23, so that the 24th lot tells */
    private static void yearsTheLastLot() {
        String late = EIGHT_QUARRELS.replace('a', 'q');
        int differ = 0;
        for (int seed = 0; seed < 40; seed++) {
            LilyQuarrels x = Told.of(EIGHT_HARD, late, "");
            for (int n = 23; n <= 24; n++) {
                LilyQuarrels y = Told.of(EIGHT_HARD, late, Told.lots(seed, n));
                due.same("gold by seed " + seed + " and " + n, x.years(seed, n, 1), Told.allGold(y));
            }
            differ += x.years(seed, 23, 1) != x.years(seed, 24, 1) ? 1 : 0;
        }
        due.yes("the 24th lot tells", differ > 0);
    }
}
