/** Promises 20 to 23: chin, dawn, monday, spare. */
public final class PlansTest {
    private static final Due due = new Due();
    private static final String NO_LILIES = "000000000000000000000000";
    private static final String LATE_LILIES = "000000000000000000000011";

    public static void main(String[] args) {
        chin();
        dawn();
        monday();
        spareFrosts();
        spareRains();
        spareVoid();
        nothingIsChanged();
        due.end();
    }

    private static void chin() {
        LilyQuarrels x = Told.of("c4;m3;h9", "01a;10a;02x;22a;27a", "");
        due.same("the mild one", x.chin(0, 0), 1);
        due.same("no blow then", x.chin(0, 1), 0);
        due.same("the mild one already", x.chin(1, 0), 0);
        due.same("no blow", x.chin(1, 1), 0);
        due.same("like ones", x.chin(2, 0), 0);
        due.same("one blow", x.chin(2, 1), 1);
        due.same("void", x.chin(3, 0), 0);
        due.same("void blows", x.chin(4, 1), 0);
        x = Told.of("c9;h9", "01a", "");
        due.same("the carter is golden sooner", x.chin(0, 0), 1);
        due.same("nine blows", x.chin(0, 1), 9);
        due.same("chin -1", x.chin(-1, 0), -2);
        due.same("chin 1", x.chin(1, 0), -2);
        due.same("chin what -1", x.chin(0, -1), -2);
        due.same("chin what 2", x.chin(0, 2), -2);
    }

    private static void dawn() {
        LilyQuarrels x = Told.of("h1;h1", "01a", LATE_LILIES);
        due.same("no peace as told", x.peace(), 0);
        due.same("just before the lilies", x.dawn(0, 0), 22);
        due.same("then one is ended", x.dawn(0, 1), 1);
        x = Told.of("h9;h9;m1;c1", "01x;23a;22a", "");
        due.same("18 blows are needed", x.dawn(0, 0), 0);
        due.same("two are ended", x.dawn(0, 1), 2);
        due.same("no better than as it is", x.dawn(1, 0), 0);
        due.same("as it is", x.dawn(1, 1), 1);
        due.same("void", x.dawn(2, 0), 0);
        due.same("void: others", x.dawn(2, 1), 1);
        x = Told.of("h9;h9", "01a", NO_LILIES);
        due.same("never: the least", x.dawn(0, 0), 0);
        due.same("never: none", x.dawn(0, 1), 0);
        LilyQuarrels y = Told.of("h9;h9;h1;h1", "01a;23w", LATE_LILIES);
        due.same("whenever it begins it takes a lily", y.dawn(0, 0), 0);
        due.same("it must begin", y.dawn(0, 1), 0);
        due.same("dawn -1", x.dawn(-1, 0), -2);
        due.same("dawn 1", x.dawn(1, 0), -2);
        due.same("dawn what -1", x.dawn(0, -1), -2);
        due.same("dawn what 2", x.dawn(0, 2), -2);
    }

    private static void monday() {
        LilyQuarrels x = Told.of("h9;h9;h9;h9;h9;h9;h9;h9", "01k;23k;45k;67k", "999" + NO_LILIES.substring(3));
        due.same("20 lilies for five days", x.waste(), 36);
        due.same("as soon as there is room for five", x.monday(0), 12);
        due.same("five less", x.monday(1), 31);
        x.event(1, 12);
        due.same("frost or none", x.monday(0), 12);
        due.same("frost or none: waste", x.monday(1), 31);
        x = Told.of("h9;c9", "01a", NO_LILIES);
        x.event(1, 0);
        due.same("of like ones the least", x.monday(0), 0);
        due.same("24 but five", x.monday(1), 19);
        x = Told.of("h9;c9", "01a", "");
        due.same("no better", x.monday(0), 0);
        due.same("none", x.monday(1), 0);
        due.same("monday -1", x.monday(-1), -2);
        due.same("monday 2", x.monday(2), -2);
    }

    /** Two blows are needed, on days 22 and 23: each frost is in the way. */
    private static void spareFrosts() {
        LilyQuarrels x = Told.of("h1;h1", "01w", LATE_LILIES);
        due.same("no event, all ended", x.spare(-1), 0);
        due.same("none to spare", x.spare(0), -1);
        x.event(0, 0);
        x.event(1, 23);
        due.same("one", x.spare(-1), 1);
        due.same("the event is still there", x.peace(), 0);
        due.same("which", x.spare(0), 1);
        due.same("no second", x.spare(1), -1);
        x.event(0, 5);
        x.event(1, 22);
        due.same("two", x.spare(-1), 2);
        due.same("the first", x.spare(0), 1);
        due.same("the second", x.spare(1), 3);
        x.event(1, 22);
        due.same("three would be needed", x.spare(-1), -1);
        due.same("three: first", x.spare(0), -1);
        due.same("three: second", x.spare(1), -1);
        due.same("spare 2", x.spare(2), -2);
        due.same("spare -2", x.spare(-2), -2);
        x.back();
        due.same("two again", x.spare(-1), 2);
    }

    /** Six blows fall on the carter by day 23: 12, so that one rain does no harm. */
    private static void spareRains() {
        LilyQuarrels x = Told.of("c9;h9", "01m", "");
        x.event(0, 16);
        due.same("one rain", x.spare(-1), 0);
        x.event(0, 18);
        due.same("two rains", x.spare(-1), 1);
        due.same("of like ones the least", x.spare(0), 0);
        x.event(0, 20);
        due.same("three rains", x.spare(-1), 2);
        due.same("the least row", x.spare(0), 0);
        due.same("the least row, second", x.spare(1), 1);
        x.event(0, 22);
        due.same("four rains", x.spare(-1), -1);
    }

    private static void spareVoid() {
        LilyQuarrels x = Told.of("h1;h1", "00a;07a", NO_LILIES);
        x.event(1, 3);
        due.same("void ones need not end", x.spare(-1), 0);
        x = Told.of("h9;h9", "01a", NO_LILIES);
        due.same("no event helps", x.spare(-1), -1);
    }

    private static void nothingIsChanged() {
        LilyQuarrels x = Told.of("c4;m3;h9;h1", "01c;12b;30d", "120");
        x.event(0, 3);
        x.event(1, 5);
        x.seen(4, 0, 2);
        long before = x.digest();
        for (int what = 0; what < 2; what++) {
            x.chin(2, what);
            x.dawn(2, what);
            x.monday(what);
            x.spare(what);
            x.was(0, what);
            x.chance(7, 1, what);
            x.years(9, 11, what);
        }
        x.chin(0, 0);
        x.never();
        x.ask(3);
        due.same("first of an uneven number of chins", x.quarrel(0, 0), 0);
        due.same("first stays", x.quarrel(2, 0), 3);
        due.same("day stays", x.quarrel(2, 2), 3);
        due.same("temper stays", x.person(3, 1), 1);
        due.same("sort stays", x.person(0, 0), 0);
        due.same("glass stays", x.glass(0), 1);
        due.same("digest stays", x.digest(), before);
    }
}
