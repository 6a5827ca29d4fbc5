/** The sentences of 'What it is' and of 'Terms' that name a boundary: a case for each, the sentence above it. */
public final class TermsEdgesTest {
    private static final Due due = new Due();
    private static final String NO_LILIES = "000000000000000000000000";

    public static void main(String[] args) throws ReflectiveOperationException {
        Cases.run(TermsEdgesTest.class);
        due.end();
    }

    private static String rowOf(String thing, int n) {
        StringBuilder s = new StringBuilder();
        for (int i = 0; i < n; i++) {
            s.append(i > 0 ? ";" : "").append(thing);
        }
        return s.toString();
    }

    private static int faultOf(int text, String bytes) {
        LilyQuarrels x = new LilyQuarrels();
        Told.type(x, text, bytes);
        return x.fault(text);
    }

    // ---- What it is

    /** "PEOPLE are a text of up to 23 bytes (text 0)" */
    private static void peopleUpTo23Bytes() {
        LilyQuarrels x = Told.of(rowOf("c1", 7) + ";c", "", "");
        due.same("22 bytes", x.count(3), 22);
        due.same("the 23rd", x.type(0, '1'), 23);
        due.same("a 24th", x.type(0, ';'), -4);
        due.same("it does not come", x.count(3), 23);
        due.same("other texts have room", x.type(1, '0'), 1);
    }

    /** "8 at most (0 on)" */
    private static void peopleEightAtMost() {
        due.same("nobody", new LilyQuarrels().person(0, 0), -2);
        for (int n = 1; n <= 8; n++) {
            LilyQuarrels x = Told.of(rowOf("h4", n), "", "");
            due.same("people", x.count(0), n);
            due.same("the first", x.person(0, 1), 4);
            due.same("the last", x.person(n - 1, 1), 4);
            due.same("one more", x.person(n, 1), -2);
        }
    }

    /** "with ; between them" */
    private static void semicolonsBetween() {
        due.same("none ahead", faultOf(0, ";c1"), 0);
        due.same("not two", faultOf(0, "c1;;c1"), 3);
        due.same("not left out", faultOf(0, "c1c1"), 2);
        due.same("none behind", faultOf(0, "c1;"), 3);
        due.same("quarrels: none ahead", faultOf(1, ";01a"), 0);
        due.same("quarrels: not two", faultOf(1, "01a;;01a"), 4);
        due.same("quarrels: not left out", faultOf(1, "01a01a"), 3);
        due.same("quarrels: none behind", faultOf(1, "01a;"), 4);
    }

    /** "c (a carter), m (mild) or h (hard)" */
    private static void sortsAreThree() {
        for (String other : new String[] {"b1", "d1", "l1", "n1", "g1", "i1", "C1", "M1", "H1"}) {
            due.same("no sort: " + other, faultOf(0, other), 0);
        }
        LilyQuarrels x = Told.of("c1;m1;h1", "", "");
        for (int person = 0; person < 3; person++) {
            due.same("sort", x.person(person, 0), person);
        }
    }

    /** "and a figure 1 to 9, the TEMPER" */
    private static void temperOneToNine() {
        due.same("0", faultOf(0, "c0"), 1);
        due.same("behind 9", faultOf(0, "c:"), 1);
        due.same("two figures", faultOf(0, "c10"), 2);
        for (int temper = 1; temper <= 9; temper++) {
            due.same("temper", Told.of("m" + temper, "", "").person(0, 1), temper);
        }
    }

    /** "An object is used for at most 512 calls after it has been made" */
    private static void fiveHundredAndTwelveCalls() {
        LilyQuarrels x = Told.of("c4;h5", "01a", "");
        long fresh = Told.of("c4;h5", "01a", "").digest();
        int calls = 8;
        for (int i = 0; calls + 9 <= 511; i++) {
            x.type(2, '0' + i % 10);
            x.event(i % 2, i % 24);
            x.seen(i % 24, 0, i % 10);
            x.sheet(i % 4, i % 3, 60);
            x.digest();
            x.lose(i % 4);
            x.undo(2);
            x.back();
            x.forget();
            calls += 9;
        }
        for (; calls < 511; calls++) {
            x.type(0, 256);
        }
        due.same("calls so far", calls, 511);
        due.same("the 512th", x.digest(), fresh);
    }

    // ---- Terms: the texts

    /** "QUARRELS are a text of up to 31 bytes (text 1)" */
    private static void quarrelsUpTo31Bytes() {
        LilyQuarrels x = Told.of("", rowOf("01a", 7) + ";01", "");
        due.same("30 bytes", x.count(4), 30);
        due.same("the 31st", x.type(1, 'a'), 31);
        due.same("a 32nd", x.type(1, ';'), -4);
        due.same("it does not come", x.count(4), 31);
    }

    /** "8 at most (0 on)" */
    private static void quarrelsEightAtMost() {
        due.same("none", new LilyQuarrels().quarrel(0, 0), -2);
        for (int n = 1; n <= 8; n++) {
            LilyQuarrels x = Told.of("", rowOf("12f", n), "");
            due.same("quarrels", x.count(1), n);
            due.same("the first", x.quarrel(0, 2), 5);
            due.same("the last", x.quarrel(n - 1, 2), 5);
            due.same("one more", x.quarrel(n, 2), -2);
        }
    }

    /** "two figures 0 to 7, who strikes FIRST and whom" */
    private static void figuresZeroToSeven() {
        due.same("first below 0", faultOf(1, "/1a"), 0);
        due.same("first 8", faultOf(1, "81a"), 0);
        due.same("whom below 0", faultOf(1, "1/a"), 1);
        due.same("whom 8", faultOf(1, "18a"), 1);
        LilyQuarrels x = Told.of("", "07a;70a", "");
        due.same("first 0", x.quarrel(0, 0), 0);
        due.same("whom 7", x.quarrel(0, 1), 7);
        due.same("first 7", x.quarrel(1, 0), 7);
        due.same("whom 0", x.quarrel(1, 1), 0);
    }

    /** "and a letter a to x, the DAY (0 to 23) on which it begins" */
    private static void lettersAToX() {
        due.same("ahead of a", faultOf(1, "01`"), 2);
        due.same("y", faultOf(1, "01y"), 2);
        due.same("A", faultOf(1, "01A"), 2);
        due.same("a", Told.of("", "01a", "").quarrel(0, 2), 0);
        due.same("x", Told.of("", "01x", "").quarrel(0, 2), 23);
    }

    /** "THE GLASS is a text of up to 24 figures 0 to 9 (text 2)" */
    private static void glassUpTo24Figures() {
        due.same("below 0", faultOf(2, "/"), 0);
        due.same("behind 9", faultOf(2, "9:"), 1);
        due.same("no ; between", faultOf(2, "1;1"), 1);
        LilyQuarrels x = Told.of("", "", "09345678901234567890123");
        due.same("0 are cut", x.glass(0), 0);
        due.same("9 are cut", x.glass(1), 9);
        due.same("the 24th", x.type(2, '8'), 24);
        due.same("on day 23", x.glass(23), 8);
        due.same("a 25th", x.type(2, '8'), -4);
        due.same("it does not come", x.count(5), 24);
    }

    /** "how many lilies are CUT on each DAY (0 on); 3 on later ones" */
    private static void threeOnLaterDays() {
        for (int n = 0; n <= 24; n++) {
            LilyQuarrels x = Told.of("", "", "777777777777777777777777".substring(0, n));
            due.same("figures", x.count(2), n);
            for (int day = 0; day < 24; day++) {
                due.same("cut on " + day + " of " + n, x.glass(day), day < n ? 7 : 3);
            }
        }
    }

    /** "The FAULT of a text is the place of the first byte with which it cannot go on" */
    private static void faultIsTheFirst() {
        due.same("at 0, of many", faultOf(0, "xxxx"), 0);
        due.same("in the third person", faultOf(0, "c1;m2;h0;x"), 7);
        due.same("in the second quarrel", faultOf(1, "01a;0x;x"), 5);
        due.same("in the glass", faultOf(2, "01234 6 8"), 5);
        due.same("the last of 23", faultOf(0, rowOf("c1", 7) + ";c0"), 22);
        due.same("the last of 31", faultOf(1, rowOf("01a", 7) + ";01y"), 30);
        due.same("the last of 24", faultOf(2, NO_LILIES.substring(1) + "a"), 23);
        due.same("byte 0", faultOf(2, "1" + (char) 0), 1);
        due.same("byte 255", faultOf(2, "1" + (char) 255), 1);
    }

    /** "an empty one is well" */
    private static void anEmptyTextIsWell() {
        LilyQuarrels x = new LilyQuarrels();
        for (int text = 0; text < 3; text++) {
            due.same("at first", x.fault(text), -1);
            x.type(text, 'z');
            due.same("not well", x.fault(text), 0);
            x.undo(text);
            due.same("undone", x.fault(text), -1);
            x.type(text, 'z');
            x.wipe(text);
            due.same("wiped", x.fault(text), -1);
        }
    }

    /** "of one that is not ended, as behind a ;, its end" */
    private static void ofOneNotEndedItsEnd() {
        due.same("behind a sort", faultOf(0, "c"), 1);
        due.same("behind a ;", faultOf(0, "c1;"), 3);
        due.same("behind a second sort", faultOf(0, "c1;m"), 4);
        due.same("behind who", faultOf(1, "0"), 1);
        due.same("behind whom", faultOf(1, "01"), 2);
        due.same("behind a ; of quarrels", faultOf(1, "01a;"), 4);
        due.same("the end of 22 bytes", faultOf(0, rowOf("c1", 7) + ";c"), 22);
        due.same("the end of 28 bytes", faultOf(1, rowOf("01a", 7) + ";"), 28);
    }

    /** "here also of the first byte of a ninth": a text of eight is full, so the byte ahead of a ninth is refused */
    private static void aNinth() {
        LilyQuarrels x = Told.of(rowOf("c1", 8), rowOf("01a", 8), "");
        due.same("no room for a ninth person", x.type(0, ';'), -4);
        due.same("no room for a ninth quarrel", x.type(1, ';'), -4);
        due.same("people are well", x.fault(0), -1);
        due.same("quarrels are well", x.fault(1), -1);
        due.same("eight people", x.count(0), 8);
        due.same("eight quarrels", x.count(1), 8);
    }

    /** "With a FAULT a text is as if it was empty": people */
    private static void faultyPeopleAreNone() {
        LilyQuarrels x = Told.of("h9;h9;", "01a", "");
        due.same("count", x.count(0), 0);
        due.same("bytes", x.count(3), 6);
        due.same("person", x.person(0, 0), -2);
        due.same("at", x.at(0, 0, 0), -2);
        due.same("was", x.was(0, 0), -2);
        due.same("ask", x.ask(0), -2);
        due.same("goldest", x.goldest(), -1);
        due.same("the quarrel is void", x.stands(0, 0, 0), 4);
        due.same("no blow", x.stock(0, 0), 3);
        x.undo(0);
        due.same("well again", x.stands(0, 0, 0), 1);
    }

    /** "With a FAULT a text is as if it was empty": quarrels */
    private static void faultyQuarrelsAreNone() {
        LilyQuarrels x = Told.of("h9;h9", "01a;", NO_LILIES);
        due.same("count", x.count(1), 0);
        due.same("bytes", x.count(4), 4);
        due.same("quarrel", x.quarrel(0, 0), -2);
        due.same("stands", x.stands(0, 0, 0), -2);
        due.same("over", x.over(0), -2);
        due.same("chance", x.chance(5, 0, 0), Long.MIN_VALUE + 2);
        due.same("waste", x.waste(), 0);
        due.same("spare", x.spare(-1), 0);
        x.undo(1);
        due.same("well again", x.waste(), 24);
        due.same("not ended", x.spare(-1), -1);
    }

    /** "With a FAULT a text is as if it was empty": the glass */
    private static void aFaultyGlassIsNone() {
        LilyQuarrels x = Told.of("", "", "95x");
        due.same("figures", x.count(2), 0);
        due.same("bytes", x.count(5), 3);
        due.same("3 on day 0", x.glass(0), 3);
        due.same("3 on day 1", x.glass(1), 3);
        due.same("stock", x.stock(1, 0), 6);
        x.undo(2);
        due.same("well again", x.stock(1, 0), 14);
        due.same("figures again", x.count(2), 2);
    }

    // ---- Terms: days

    /** "DAYS are 0 to 23" */
    private static void daysAre0To23() {
        LilyQuarrels x = Told.of("h1", "00a", "");
        for (int day : new int[] {0, 23}) {
            due.same("glass", x.glass(day), 3);
            due.same("stands", x.stands(day, 0, 0), 4);
            due.same("at", x.at(day, 0, 0), 0);
            due.same("stock", x.stock(day, 1), 0);
            due.yes("event", x.event(0, day) > 0);
            due.yes("seen", x.seen(day, 0, 0) > 0);
        }
        for (int day : new int[] {-1, 24}) {
            due.same("no glass", x.glass(day), -2);
            due.same("no stands", x.stands(day, 0, 0), -2);
            due.same("no at", x.at(day, 0, 0), -2);
            due.same("no stock", x.stock(day, 1), -2);
            due.same("no event", x.event(0, day), -2);
            due.same("no seen", x.seen(day, 0, 0), -2);
        }
    }

    /** "EVENTS, 8 at most (0 on): a kind, a DAY: 0 a RAIN, 1 a FROST" */
    private static void eventsEightAtMost() {
        LilyQuarrels x = new LilyQuarrels();
        due.same("kind -1", x.event(-1, 0), -2);
        due.same("kind 2", x.event(2, 0), -2);
        for (int n = 1; n <= 8; n++) {
            due.same("an event", x.event(n % 2, 23), n);
        }
        due.same("a ninth", x.event(0, 0), -4);
        due.same("eight", x.count(6), 8);
        due.same("all of them by number, 0 to 7", x.never(), 255);
    }

    /** "A QUARREL is VOID, if one of both is not there, or both are one" */
    private static void voidAtTheEdge() {
        LilyQuarrels x = Told.of("h9;h9;h9", "02a;03a;30a;22a;20a;77a", "");
        int[] want = {1, 4, 4, 4, 1, 4};
        for (int quarrel = 0; quarrel < 6; quarrel++) {
            due.same("void " + quarrel, x.stands(0, quarrel, 0), want[quarrel]);
        }
        x = Told.of(rowOf("h9", 8), "07a;70a", "");
        due.same("the eighth is there", x.stands(0, 0, 0), 1);
        due.same("the eighth strikes", x.at(0, 7, 2), 1);
    }

    /** "else its HEAT is both TEMPERS together at first" */
    private static void heatAtFirst() {
        LilyQuarrels x = Told.of("h1;c1;h9;c9", "01b;23b;12b", "");
        due.same("the least", x.stands(0, 0, 1), 2);
        due.same("the most", x.stands(0, 1, 1), 18);
        due.same("between", x.stands(0, 2, 1), 10);
    }

    /** "STOCK is 0, everybody's GOLD is 0 at first" */
    private static void nothingAtFirst() {
        LilyQuarrels x = Told.of("h1;c1", "01b", "0");
        due.same("stock", x.stock(0, 0), 0);
        due.same("gold", x.at(0, 0, 0) + x.at(0, 1, 0), 0);
        x.event(0, 0);
        due.same("no less by a rain", x.at(0, 0, 0) + x.at(0, 1, 0), 0);
    }

    /** "for each RAIN of it, everybody's GOLD is less by 2, 0 at least" */
    private static void rainsLeaveNoLessThanNone() {
        LilyQuarrels x = Told.of("h9;h9;h9;c9;h9;h9;c5", "01e;23e;45a", "");
        due.same("1 ahead", x.at(4, 1, 0), 1);
        due.same("2 ahead", x.at(4, 3, 0), 2);
        due.same("3 ahead", x.at(4, 5, 0), 3);
        x.event(0, 5);
        due.same("0 of 0", x.at(5, 6, 0), 0);
        due.same("0 of 1", x.at(5, 1, 0), 0);
        due.same("0 of 2", x.at(5, 3, 0), 0);
        due.same("1 of 3", x.at(5, 5, 0), 1);
        due.same("0 of 0, then a blow", x.at(5, 0, 0), 1);
        x.event(0, 5);
        due.same("0 of 3 by two", x.at(5, 5, 0), 0);
        for (int i = 0; i < 6; i++) {
            x.event(0, 5);
        }
        due.same("0 of 3 by eight", x.at(5, 5, 0), 0);
        due.same("0 of 0 by eight, then a blow", x.at(5, 0, 0), 1);
    }

    /** "Then as many lilies as are CUT come to STOCK, 20 at most" */
    private static void stockTwentyAtMost() {
        due.same("19", Told.of("", "", "991").stock(2, 0), 19);
        due.same("20", Told.of("", "", "992").stock(2, 0), 20);
        due.same("21", Told.of("", "", "993").stock(2, 0), 20);
        due.same("9 more than 20", Told.of("", "", "9929").stock(3, 0), 20);
        LilyQuarrels x = Told.of("h9;h9", "01d", "9999");
        due.same("20, then a blow", x.stock(3, 0), 19);
        due.same("20 again, then a blow", x.stock(4, 0), 19);
    }

    /** "none, if there is a FROST on that DAY" */
    private static void noneByAFrost() {
        LilyQuarrels x = Told.of("", "", "459");
        x.event(1, 1);
        due.same("the day ahead", x.stock(0, 0), 4);
        due.same("the day", x.stock(1, 0), 4);
        due.same("the day behind", x.stock(2, 0), 13);
        x.event(1, 0);
        due.same("the first day", x.stock(0, 0), 0);
        x = Told.of("", "", NO_LILIES.substring(1) + "9");
        due.same("9 on the last day", x.stock(23, 0), 9);
        x.event(1, 23);
        due.same("the last day", x.stock(23, 0), 0);
    }

    /** "and begin on that DAY or ahead" */
    private static void beginOnThatDayOrAhead() {
        for (int begin = 0; begin < 24; begin++) {
            LilyQuarrels x = Told.of("h9;h9", "01" + (char) ('a' + begin), "");
            if (begin > 0) {
                due.same("not begun", x.stands(begin - 1, 0, 0), 0);
                due.same("no blow yet", x.stands(begin - 1, 0, 2), 0);
            }
            due.same("begun", x.stands(begin, 0, 0), 1);
            due.same("a blow", x.stands(begin, 0, 2), 1);
        }
    }

    /** "Else, if STOCK is 0, it WAITS" */
    private static void waitsIfStockIsNone() {
        LilyQuarrels x = Told.of("h9;h9;c9;c9", "01a;23a", "1");
        due.same("the last lily", x.stands(0, 0, 0), 1);
        due.same("none is left", x.stands(0, 1, 0), 2);
        due.same("none is left behind the day", x.stock(0, 0), 0);
        due.same("a lily for each", Told.of("h9;h9;c9;c9", "01a;23a", "2").stands(0, 1, 0), 1);
    }

    /** "if that one is hard, HEAT is more by 1, 18 at most" */
    private static void heatEighteenAtMost() {
        LilyQuarrels x = Told.of("h9;c7;h8;c9", "01a;23a;10a", NO_LILIES);
        due.same("17", x.stands(0, 0, 1), 17);
        due.same("18", x.stands(1, 0, 1), 18);
        due.same("18 still", x.stands(2, 0, 1), 18);
        due.same("17 and 1", x.stands(0, 1, 1), 18);
        due.same("18 to the end", x.stands(23, 1, 1), 18);
        due.same("a carter is no hotter", x.stands(23, 2, 1), 16);
        due.same("18 at first", Told.of("h9;c9", "01a", "0").stands(0, 0, 1), 18);
    }

    /** "the GOLD of who is struck is more by 1, of a carter by 2, 9 at most" */
    private static void goldNineAtMost() {
        LilyQuarrels x = Told.of("h9;c9", "01a", "");
        due.same("8 of a carter", x.at(7, 1, 0), 8);
        due.same("8 and 2", x.at(8, 1, 0), 9);
        x = Told.of("h9;h9", "01a", "");
        due.same("8 of a hard one", x.at(15, 1, 0), 8);
        due.same("8 and 1", x.at(16, 1, 0), 9);
    }

    /** "9 at most": the one of nine is struck again, in a quarrel that begins on that day */
    private static void goldNineStruckAgain() {
        LilyQuarrels x = Told.of("h9;c9;h9", "01a;21i", "");
        due.same("struck for the sixth time", x.at(8, 1, 1), 6);
        due.same("9 still", x.at(8, 1, 0), 9);
        due.same("a blow", x.stands(8, 1, 2), 1);
        due.same("and it is ended", x.over(1), 8);
    }

    /** "HEAT is less by 1, by 3 if who is struck is mild. If HEAT is 0 or less then (it is 0 then) .. ENDED" */
    private static void heatNoughtOrLess() {
        int[][] want = {{1, 0, 0}, {2, 0, 0}, {3, 1, 1}};
        for (int[] w : want) {
            LilyQuarrels x = Told.of("c" + w[0] + ";m1", "01a", "");
            due.same("heat of " + w[0] + " and 1, less 3", x.stands(0, 0, 1), w[1]);
            due.same("over", x.over(0), w[2]);
            due.same("heat in the end", x.stands(23, 0, 1), 0);
        }
        LilyQuarrels x = Told.of("c1;h1", "01a", "");
        due.same("1 is left", x.stands(0, 0, 1), 1);
        due.same("it goes on", x.stands(0, 0, 0), 1);
        due.same("0", x.stands(1, 0, 1), 0);
        due.same("ended", x.stands(1, 0, 0), 3);
    }

    /** "or one of both has a GOLD of 9": 8 is not enough, either one of both may have it, from elsewhere too */
    private static void goldOfNineEnds() {
        LilyQuarrels x = Told.of("h9;c9;h9", "01a;12i;21j", "");
        due.same("8 goes on", x.stands(7, 0, 0), 1);
        due.same("who is struck", x.over(0), 8);
        due.same("who strikes", x.over(1), 8);
        due.same("at its own first turn", x.over(2), 9);
        due.same("heat is left", x.stands(8, 0, 1), 9);
    }

    /** "or one of both has a GOLD of 9": on a mild one's turn too, though there is no BLOW; not if it is washed off */
    private static void goldOfNineEndsOnTheTurnOfOneWhoIsMild() {
        LilyQuarrels x = Told.of("c9;h9;m9", "10a;20a", "");
        due.same("8 goes on", x.stands(7, 1, 0), 1);
        due.same("the other quarrel", x.over(0), 8);
        due.same("golden ahead of the mild one's turn", x.over(1), 8);
        due.same("heat is left", x.stands(8, 1, 1), 9);
        due.same("without a blow", x.stands(8, 1, 2), 0);
        Told.retype(x, 1, "20a;10a");
        due.same("golden behind the mild one's turn", x.stands(8, 0, 0), 1);
        due.same("then on the next day", x.over(0), 9);
        due.same("one heat less", x.stands(9, 0, 1), 8);
        x.event(0, 9);
        due.same("washed ahead of it, till no heat is left", x.over(0), 17);
    }

    // ---- Terms: fractions, lots, sheets, findings

    /** "FRACTIONS are told in lowest terms, above and below (0 by 1)" */
    private static void fractionsInLowestTerms() {
        LilyQuarrels x = Told.of("c9;h9", "01o;00a", "");
        x.event(0, 20);
        long[][] want = {{0, 1, 1}, {1, 15, 16}, {2, 7, 8}, {4, 3, 4}, {8, 1, 2}, {12, 1, 4}, {15, 1, 16}, {16, 0, 1}};
        for (long[] w : want) {
            due.same("above by " + w[0], x.chance((int) w[0], 0, 0), w[1]);
            due.same("below by " + w[0], x.chance((int) w[0], 0, 1), w[2]);
        }
        due.same("0", x.chance(8, 1, 0), 0);
        due.same("by 1", x.chance(8, 1, 1), 1);
    }

    /**
     * "LOTS of m: SEED becomes 1103515245 SEED and 12345, as ints that wrap; its upper 16 bits as a number from 0 on,
     * modulo m": here every lily is used and nobody is golden, so all GOLD is 45 and what is cut on day 0.
     */
    private static void lotsOfIntsThatWrap() {
        LilyQuarrels x = Told.of(rowOf("h9", 8), "01a;23a;45a;67a;10a;32a;54a;76a", "");
        for (int day = 1; day <= 8; day++) {
            x.event(1, day);
        }
        due.same("12345: upper bits 0", x.years(0, 1, 1), 45);
        due.same("1103527590: 16838", x.years(1, 1, 1), 45 + 8);
        due.same("-1103502900, as 3191464396: 48697", x.years(-1, 1, 1), 45 + 7);
        due.same("1043980748: 15929", x.years(Integer.MAX_VALUE, 1, 1), 45 + 9);
        due.same("-2147471303, as 2147495993: 32768", x.years(Integer.MIN_VALUE, 1, 1), 45 + 8);
    }

    /** "SHEETS 0 .. 3 are LOST (at first) or a row of a FORM: 0 bytes, 1 shorts, 2 ints, of 0 to 60 items" */
    private static void sheetsAndForms() {
        LilyQuarrels x = new LilyQuarrels();
        for (int s = 0; s < 4; s++) {
            due.same("lost at first", x.lose(s), -11);
            for (int form = 0; form < 3; form++) {
                due.same("0 items", x.sheet(s, form, 0), 0);
                due.same("no item 0", x.lay(s, form, 0, 1), -12);
                due.same("60 items", x.sheet(s, form, 60), 60);
                due.same("item 59", x.lay(s, form, 59, 1), 1);
                due.same("no item 60", x.lay(s, form, 60, 1), -12);
                due.same("61 items", x.sheet(s, form, 61), -2);
                due.same("it stays", x.get(s, form, 59), 1);
            }
            due.same("form -1", x.sheet(s, -1, 1), -2);
            due.same("form 3", x.sheet(s, 3, 1), -2);
        }
        due.same("sheet -1", x.sheet(-1, 0, 1), -2);
        due.same("sheet 4", x.sheet(4, 0, 1), -2);
    }

    /** "(0 at first)": also where a longer row with other items was */
    private static void itemsAre0AtFirst() {
        LilyQuarrels x = new LilyQuarrels();
        for (int form = 0; form < 3; form++) {
            x.sheet(0, 2, 60);
            for (int i = 0; i < 60; i++) {
                x.lay(0, 2, i, -1 - i);
            }
            x.sheet(0, form, 60);
            for (int i = 0; i < 60; i++) {
                due.same("item " + i, x.get(0, form, i), 0);
            }
        }
    }

    /** "FINDINGS (answers -10 less the number ..): 1 NULL .. 2 INDEX .. 3 CAST .. 4 STORE .. 5 SIZE" */
    private static void findingsByNumber() {
        LilyQuarrels x = new LilyQuarrels();
        x.sheet(0, 0, 2);
        x.sheet(1, 1, 2);
        due.same("before any", x.count(8), 0);
        due.same("NULL: the sheet is lost", x.lay(2, 0, 0, 0), -11);
        due.same("1", x.count(8), 1);
        due.same("INDEX: there is no such item", x.lay(0, 0, 2, 0), -12);
        due.same("2", x.count(8), 2);
        due.same("CAST: it has another form", x.lay(0, 1, 0, 0), -13);
        due.same("3", x.count(8), 3);
        due.same("STORE: unlike forms", x.copy(0, 0, 1, 0, 1), -14);
        due.same("4", x.count(8), 4);
        due.same("SIZE: below 0", x.sheet(0, 0, -1), -15);
        due.same("5", x.count(8), 5);
    }
}
