import java.math.BigInteger;
import java.util.ArrayList;
import java.util.List;
import java.util.function.IntToLongFunction;

/** What each promise says of its edges: cases by its number, the sentence above each. Some promise has several. */
public final class PromiseEdgesTest {
    private static final Due due = new Due();
    private static final int BAD = -2, NOT = -3, FULL = -4;
    private static final int LEAST = Integer.MIN_VALUE, MOST = Integer.MAX_VALUE;
    private static final int[] TEXT_ROOM = {23, 31, 24};
    private static final String EIGHT_PEOPLE = "c1;m2;h3;c4;m5;h6;c7;m8";
    private static final String EIGHT_QUARRELS = "01a;12b;23c;34d;45e;56f;67g;70h";

    public static void main(String[] args) throws ReflectiveOperationException {
        Cases.run(PromiseEdgesTest.class);
        for (int promise = 1; promise <= 38; promise++) {
            String start = String.format("p%02d", promise);
            due.yes("promise " + promise + " has a case", Cases.beginningWith(PromiseEdgesTest.class, start) > 0);
        }
        due.end();
    }

    /** All numbers from the least to just outside, and from just outside to the most, are as wrong as these four. */
    private static void wrong(String call, IntToLongFunction answer, int first, int last, long want) {
        for (int number : new int[] {LEAST, first - 1, last + 1, MOST}) {
            due.same(call + " of " + number, answer.applyAsLong(number), want);
        }
        for (int number = first; number <= last; number++) {
            due.yes(call + " of " + number + " is no such answer", answer.applyAsLong(number) != want);
        }
    }

    private static LilyQuarrels two() {
        return Told.of("c4;h5", "01a", "");
    }

    // ---- people, quarrels, the glass, events

    /** "No PEOPLE, no QUARRELS, no EVENTS; all SHEETS are LOST." */
    private static void p01NothingIsThere() {
        LilyQuarrels x = new LilyQuarrels();
        for (int what = 0; what <= 8; what++) {
            due.same("count " + what, x.count(what), 0);
        }
        due.same("no event to undo", x.back(), NOT);
        for (int s = 0; s < 4; s++) {
            due.same("sheet " + s, x.lose(s), -11);
        }
    }

    /** "A byte (0 to 255) comes behind a text: how many." */
    private static void p02Bytes() {
        for (int text = 0; text < 3; text++) {
            LilyQuarrels x = new LilyQuarrels();
            due.same("byte 0", x.type(text, 0), 1);
            due.same("byte 255", x.type(text, 255), 2);
            due.same("bytes", x.count(3 + text), 2);
        }
    }

    /** "BAD" */
    private static void p02Bad() {
        wrong("type: text", text -> new LilyQuarrels().type(text, 'c'), 0, 2, BAD);
        wrong("type: byte", b -> new LilyQuarrels().type(1, b), 0, 255, BAD);
    }

    /** "FULL", behind BAD */
    private static void p02Full() {
        for (int text = 0; text < 3; text++) {
            LilyQuarrels x = new LilyQuarrels();
            for (int n = 1; n <= TEXT_ROOM[text]; n++) {
                due.same("type", x.type(text, '1'), n);
            }
            due.same("full", x.type(text, '1'), FULL);
            due.same("bad and full", x.type(text, 256), BAD);
            due.same("bad and full, below", x.type(text, -1), BAD);
            x.undo(text);
            due.same("room again", x.type(text, '1'), TEXT_ROOM[text]);
        }
    }

    /** "A text is empty: how many bytes it had." */
    private static void p03EmptyAndFull() {
        for (int text = 0; text < 3; text++) {
            LilyQuarrels x = new LilyQuarrels();
            due.same("wipe an empty one", x.wipe(text), 0);
            for (int n = 0; n < TEXT_ROOM[text]; n++) {
                x.type(text, ';');
            }
            due.same("wipe a full one", x.wipe(text), TEXT_ROOM[text]);
            due.same("it is empty", x.count(3 + text), 0);
            due.same("wipe it again", x.wipe(text), 0);
            due.same("room", x.type(text, ';'), 1);
        }
    }

    /** "BAD" */
    private static void p03Bad() {
        wrong("wipe: text", text -> new LilyQuarrels().wipe(text), 0, 2, BAD);
    }

    /** "The last byte of a text is undone: how many are left." From full to empty. */
    private static void p04FullToEmpty() {
        for (int text = 0; text < 3; text++) {
            LilyQuarrels x = new LilyQuarrels();
            for (int n = 0; n < TEXT_ROOM[text]; n++) {
                x.type(text, 'c');
            }
            for (int left = TEXT_ROOM[text] - 1; left >= 0; left--) {
                due.same("undo", x.undo(text), left);
            }
            due.same("undo an empty one", x.undo(text), NOT);
        }
    }

    /** "NOT: it is empty." At first, and when it was wiped. */
    private static void p04Not() {
        LilyQuarrels x = new LilyQuarrels();
        for (int text = 0; text < 3; text++) {
            due.same("at first", x.undo(text), NOT);
            x.type(text, '1');
            x.wipe(text);
            due.same("wiped", x.undo(text), NOT);
        }
    }

    /** "BAD" */
    private static void p04Bad() {
        wrong("undo: text", text -> new LilyQuarrels().undo(text), 0, 2, BAD);
    }

    /** "The FAULT of a text; NONE." */
    private static void p05None() {
        LilyQuarrels x = Told.of(EIGHT_PEOPLE, EIGHT_QUARRELS, "012345678901234567890123");
        for (int text = 0; text < 3; text++) {
            due.same("a full one that is well", x.fault(text), -1);
            x.undo(text);
            x.type(text, '!');
            due.same("its last byte", x.fault(text), TEXT_ROOM[text] - 1);
            x.wipe(text);
            due.same("an empty one", x.fault(text), -1);
            x.type(text, '!');
            due.same("its first byte", x.fault(text), 0);
        }
    }

    /** "BAD" */
    private static void p05Bad() {
        wrong("fault: text", text -> new LilyQuarrels().fault(text), 0, 2, BAD);
    }

    /** "Its sort (what = 0 ..), the TEMPER (1) of a PERSON. BAD." */
    private static void p06Bad() {
        wrong("person: nobody", person -> new LilyQuarrels().person(person, 0), 0, -1, BAD);
        wrong("person: one of two", person -> two().person(person, 1), 0, 1, BAD);
        wrong("person: one of eight", person -> Told.of(EIGHT_PEOPLE, "", "").person(person, 0), 0, 7, BAD);
        wrong("person: what", what -> two().person(0, what), 0, 1, BAD);
    }

    /** "Who strikes FIRST (what = 0), whom (1), the DAY (2) of a QUARREL. BAD." */
    private static void p07Bad() {
        wrong("quarrel: none", quarrel -> new LilyQuarrels().quarrel(quarrel, 0), 0, -1, BAD);
        wrong("quarrel: one", quarrel -> two().quarrel(quarrel, 1), 0, 0, BAD);
        wrong("quarrel: of eight", quarrel -> Told.of("", EIGHT_QUARRELS, "").quarrel(quarrel, 2), 0, 7, BAD);
        wrong("quarrel: what", what -> two().quarrel(0, what), 0, 2, BAD);
    }

    /** "How many lilies are CUT on a DAY (FROST or none)." */
    private static void p08FrostOrNone() {
        LilyQuarrels x = Told.of("", "", "9");
        x.event(1, 0);
        x.event(1, 1);
        due.same("with a frost", x.glass(0), 9);
        due.same("with a frost on a later day", x.glass(1), 3);
    }

    /** "BAD" */
    private static void p08Bad() {
        wrong("glass: day", day -> two().glass(day), 0, 23, BAD);
    }

    /** "An EVENT more: how many. BAD; FULL." */
    private static void p09BadFull() {
        wrong("event: kind", kind -> new LilyQuarrels().event(kind, 0), 0, 1, BAD);
        wrong("event: day", day -> new LilyQuarrels().event(1, day), 0, 23, BAD);
        LilyQuarrels x = new LilyQuarrels();
        for (int n = 1; n <= 8; n++) {
            due.same("event", x.event(1, 23), n);
        }
        due.same("full", x.event(0, 0), FULL);
        due.same("bad and full: kind", x.event(2, 0), BAD);
        due.same("bad and full: day", x.event(0, 24), BAD);
        x.back();
        due.same("room again", x.event(0, 0), 8);
    }

    /** "The last EVENT is undone: how many are left." */
    private static void p10TheLast() {
        LilyQuarrels x = new LilyQuarrels();
        x.event(1, 0);
        x.event(1, 1);
        due.same("two frosts", x.stock(1, 0), 0);
        due.same("back", x.back(), 1);
        due.same("the first is left", x.stock(0, 0), 0);
        due.same("the last is not", x.stock(1, 0), 3);
        due.same("back again", x.back(), 0);
        due.same("no frost", x.stock(0, 0), 3);
    }

    /** "NOT: there is none." */
    private static void p10Not() {
        LilyQuarrels x = new LilyQuarrels();
        due.same("at first", x.back(), NOT);
        x.event(0, 0);
        x.back();
        due.same("none is left", x.back(), NOT);
        due.same("none", x.count(6), 0);
    }

    private static LilyQuarrels withSheet(int form, int... items) {
        LilyQuarrels x = new LilyQuarrels();
        x.sheet(0, form, items.length);
        for (int i = 0; i < items.length; i++) {
            x.lay(0, form, i, items[i]);
        }
        return x;
    }

    /** "its items, two for each, as many as are whole" */
    private static void p11Whole() {
        due.same("no items", withSheet(0).read(0), 0);
        due.same("one item", withSheet(1, 1).read(0), 0);
        due.same("two items", withSheet(2, 1, 23).read(0), 1);
        due.same("three items", withSheet(0, 1, 23, 0).read(0), 1);
        due.same("four items", withSheet(1, 1, 23, 0, 0).read(0), 2);
        LilyQuarrels x = withSheet(2, 1, 0, 1, 2, 1);
        due.same("five items", x.read(0), 2);
        due.same("the first of them", x.stock(0, 0), 0);
        due.same("the second", x.stock(2, 0), 3);
    }

    /** "as long as each may be" */
    private static void p11AsLongAsEachMayBe() {
        int[][] wrong = {{-1, 0}, {2, 0}, {0, -1}, {1, 24}, {LEAST, 0}, {MOST, 0}, {0, LEAST}, {0, MOST}};
        for (int[] w : wrong) {
            LilyQuarrels x = withSheet(2, w[0], w[1], 1, 0);
            due.same("the first may not be", x.read(0), 0);
            due.same("none", x.count(6), 0);
            x = withSheet(2, 1, 1, w[0], w[1], 1, 0);
            due.same("the second may not be", x.read(0), 1);
            due.same("one", x.count(6), 1);
        }
    }

    /** "and there is room" */
    private static void p11Room() {
        LilyQuarrels x = withSheet(0, new int[60]);
        due.same("eight of thirty", x.read(0), 8);
        due.same("no room", x.read(0), 0);
        due.same("eight", x.count(6), 8);
        x.back();
        due.same("room for one", x.read(0), 1);
    }

    /** "BAD; NULL." */
    private static void p11BadNull() {
        LilyQuarrels x = new LilyQuarrels();
        wrong("read: sheet", s -> new LilyQuarrels().read(s), 0, 3, BAD);
        due.same("lost", x.read(3), -11);
        due.same("a finding", x.count(8), 1);
        x.sheet(3, 0, 0);
        due.same("not lost, though empty", x.read(3), 0);
    }

    // ---- days

    /** "What it is (what = 0), HEAT (1), BLOWS (2) of a QUARREL. BAD." */
    private static void p12Bad() {
        wrong("stands: day", day -> two().stands(day, 0, 0), 0, 23, BAD);
        wrong("stands: quarrel", quarrel -> two().stands(0, quarrel, 0), 0, 0, BAD);
        wrong("stands: quarrel of eight", q -> Told.of("", EIGHT_QUARRELS, "").stands(0, q, 0), 0, 7, BAD);
        wrong("stands: what", what -> two().stands(23, 0, what), 0, 2, BAD);
        wrong("stands: no quarrel", quarrel -> new LilyQuarrels().stands(0, quarrel, 0), 0, -1, BAD);
    }

    /** "GOLD (what = 0), how often one was struck (1), how often one struck others (2). BAD." */
    private static void p13Bad() {
        wrong("at: day", day -> two().at(day, 0, 0), 0, 23, BAD);
        wrong("at: person", person -> two().at(0, person, 0), 0, 1, BAD);
        wrong("at: person of eight", person -> Told.of(EIGHT_PEOPLE, "", "").at(0, person, 0), 0, 7, BAD);
        wrong("at: what", what -> two().at(23, 0, what), 0, 2, BAD);
        wrong("at: nobody", person -> new LilyQuarrels().at(0, person, 0), 0, -1, BAD);
    }

    /** "STOCK (what = 0), how many QUARRELS are open (1). BAD." */
    private static void p14Bad() {
        wrong("stock: day", day -> new LilyQuarrels().stock(day, 0), 0, 23, BAD);
        wrong("stock: what", what -> new LilyQuarrels().stock(0, what), 0, 1, BAD);
    }

    /** "OVER; NONE. BAD." */
    private static void p15NoneBad() {
        due.same("none", Told.of("h9;h9", "01x", "").over(0), -1);
        due.same("none of a void one", Told.of("", "01a", "").over(0), -1);
        wrong("over: quarrel", quarrel -> two().over(quarrel), 0, 0, BAD);
        wrong("over: no quarrel", quarrel -> new LilyQuarrels().over(quarrel), 0, -1, BAD);
    }

    /** "MIST: the DAY (what = 0), who (1); NONE. BAD." */
    private static void p16NoneBad() {
        due.same("none", two().mist(0), -1);
        due.same("nobody", two().mist(1), -1);
        wrong("mist: what", what -> two().mist(what), 0, 1, BAD);
    }

    /** "WASTE." */
    private static void p17None() {
        due.same("nothing is there", new LilyQuarrels().waste(), 0);
        due.same("nobody waits", two().waste(), 0);
        due.same("each day", Told.of("c4;h5", "01a", "000000000000000000000000").waste(), 24);
    }

    /** "GOLDEST; NONE." */
    private static void p18None() {
        due.same("nobody is there", new LilyQuarrels().goldest(), -1);
        due.same("quarrels without people", Told.of("", "01a", "").goldest(), -1);
        due.same("people with a fault", Told.of("c1;", "", "").goldest(), -1);
        due.same("one", Told.of("c1", "", "").goldest(), 0);
    }

    /** "PEACE, as bits." */
    private static void p19NoneAndAll() {
        due.same("no quarrels", new LilyQuarrels().peace(), 0);
        due.same("void ones", Told.of("", EIGHT_QUARRELS, "").peace(), 0);
        due.same("all eight", Told.of("m1;h1", "01a;01a;01a;01a;01a;01a;01a;01a", "").peace(), 255);
    }

    // ---- plans

    /** "CHIN: which (what = 0), how many (1). BAD." */
    private static void p20Bad() {
        wrong("chin: quarrel", quarrel -> two().chin(quarrel, 0), 0, 0, BAD);
        wrong("chin: what", what -> two().chin(0, what), 0, 1, BAD);
        wrong("chin: no quarrel", quarrel -> new LilyQuarrels().chin(quarrel, 0), 0, -1, BAD);
    }

    /** "DAWN: which (what = 0), how many (1). BAD." */
    private static void p21Bad() {
        wrong("dawn: quarrel", quarrel -> two().dawn(quarrel, 0), 0, 0, BAD);
        wrong("dawn: what", what -> two().dawn(0, what), 0, 1, BAD);
        wrong("dawn: no quarrel", quarrel -> new LilyQuarrels().dawn(quarrel, 0), 0, -1, BAD);
    }

    /** "(Also if it is no better than as it is.)": the least of like days, though its own does as well */
    private static void p21NoBetter() {
        LilyQuarrels x = Told.of("c4;h5", "01f", "");
        due.same("its own does", x.peace(), 1);
        due.same("the least, not its own", x.dawn(0, 0), 0);
        due.same("as many", x.dawn(0, 1), 1);
    }

    /** "MONDAY: which (what = 0), how much (1). BAD." */
    private static void p22Bad() {
        wrong("monday: what", what -> two().monday(what), 0, 1, BAD);
        wrong("monday: what of nothing", what -> new LilyQuarrels().monday(what), 0, 1, BAD);
    }

    /** "(Also if it is no better than as it is.)" */
    private static void p22NoBetter() {
        due.same("no waste: day 0", two().monday(0), 0);
        due.same("no waste", two().monday(1), 0);
    }

    /** "SPARE: how many (i = NONE), the i-th (0, 1; NONE); NONE. BAD." */
    private static void p23NoneBad() {
        wrong("spare: i", i -> two().spare(i), -1, 1, BAD);
        due.same("how many", two().spare(-1), 0);
        due.same("no 0th", two().spare(0), -1);
        due.same("no 1st", two().spare(1), -1);
        LilyQuarrels x = Told.of("h9;h9", "01x", "");
        for (int i = -1; i < 2; i++) {
            due.same("it cannot be", x.spare(i), -1);
        }
    }

    // ---- seen, chance, years

    /** "SEEN more: how many. BAD; FULL." */
    private static void p24BadFull() {
        wrong("seen: day", day -> new LilyQuarrels().seen(day, 0, 0), 0, 23, BAD);
        wrong("seen: person, there or not", person -> new LilyQuarrels().seen(0, person, 0), 0, 7, BAD);
        wrong("seen: gold", gold -> new LilyQuarrels().seen(0, 0, gold), 0, 9, BAD);
        LilyQuarrels x = new LilyQuarrels();
        for (int n = 1; n <= 8; n++) {
            due.same("seen", x.seen(0, 0, 0), n);
        }
        due.same("full", x.seen(0, 0, 0), FULL);
        due.same("bad and full: day", x.seen(24, 0, 0), BAD);
        due.same("bad and full: person", x.seen(0, 8, 0), BAD);
        due.same("bad and full: gold", x.seen(0, 0, 10), BAD);
    }

    /** "All SEEN are forgotten: how many." */
    private static void p25NoneAndAll() {
        LilyQuarrels x = two();
        due.same("none", x.forget(), 0);
        for (int n = 0; n < 8; n++) {
            x.seen(0, 0, 9);
        }
        due.same("not so", x.was(0, 1), 0);
        due.same("all", x.forget(), 8);
        due.same("none again", x.forget(), 0);
        due.same("nothing is left of them", x.was(0, 1), 1022);
        due.same("room for one", x.seen(0, 0, 0), 1);
    }

    /** "NEVER, as bits." */
    private static void p26NoneAndAll() {
        LilyQuarrels x = two();
        due.same("no events", x.never(), 0);
        for (int n = 0; n < 8; n++) {
            x.event(0, 0);
        }
        due.same("all", x.never(), 255);
        x.seen(0, 7, 0);
        due.same("none", x.never(), 0);
    }

    /** "SORT (what = 0), TEMPERS (1), as bits. BAD." */
    private static void p27Bad() {
        wrong("was: person", person -> two().was(person, 0), 0, 1, BAD);
        wrong("was: person of eight", person -> Told.of(EIGHT_PEOPLE, "", "").was(person, 1), 0, 7, BAD);
        wrong("was: what", what -> two().was(0, what), 0, 1, BAD);
        wrong("was: nobody", person -> new LilyQuarrels().was(person, 0), 0, -1, BAD);
    }

    /** "ASK. BAD." */
    private static void p28Bad() {
        wrong("ask: person", person -> two().ask(person), 0, 1, BAD);
        wrong("ask: person of eight", person -> Told.of(EIGHT_PEOPLE, "", "").ask(person), 0, 7, BAD);
        wrong("ask: nobody", person -> new LilyQuarrels().ask(person), 0, -1, BAD);
    }

    /** "CHANCE: above, below. BAD. (As the least long and x more.)" */
    private static void p29Bad() {
        long bad = Long.MIN_VALUE + 2;
        due.same("the least long and 2 more", bad, -9223372036854775806L);
        wrong("chance: c", c -> two().chance(c, 0, 0), 0, 16, bad);
        wrong("chance: quarrel", quarrel -> two().chance(5, quarrel, 0), 0, 0, bad);
        wrong("chance: what", what -> two().chance(5, 0, what), 0, 1, bad);
        wrong("chance: no quarrel", quarrel -> new LilyQuarrels().chance(5, quarrel, 0), 0, -1, bad);
    }

    /** "YEARS: how many are ENDED (what = 0), GOLD (1). BAD." Any seed may be. */
    private static void p30Bad() {
        wrong("years: n", n -> two().years(0, n, 0), 0, 24, BAD);
        wrong("years: what", what -> two().years(0, 24, what), 0, 1, BAD);
        for (int seed : new int[] {LEAST, -1, 0, 1, MOST}) {
            due.same("of nothing, ended", new LilyQuarrels().years(seed, 24, 0), 0);
            due.same("of nothing, gold", new LilyQuarrels().years(seed, 24, 1), 0);
        }
    }

    // ---- sheets

    /** "A SHEET is a new row of a FORM with n items: n." */
    private static void p31NoneAndSixty() {
        LilyQuarrels x = new LilyQuarrels();
        for (int n = 0; n <= 60; n += 60) {
            due.same("sheet", x.sheet(0, 1, n), n);
            due.same("lose", x.lose(0), n);
        }
    }

    /** "BAD: SHEET, FORM, above 60; SIZE." */
    private static void p31BadSize() {
        wrong("sheet: which", s -> new LilyQuarrels().sheet(s, 0, 1), 0, 3, BAD);
        wrong("sheet: form", form -> new LilyQuarrels().sheet(0, form, 1), 0, 2, BAD);
        LilyQuarrels x = new LilyQuarrels();
        due.same("61", x.sheet(0, 0, 61), BAD);
        due.same("the most", x.sheet(0, 0, MOST), BAD);
        due.same("a sheet that is none, of a size below 0", x.sheet(4, 0, -1), BAD);
        due.same("a form that is none, of a size below 0", x.sheet(0, -1, -1), BAD);
        due.same("no finding", x.count(8), 0);
        due.same("-1", x.sheet(0, 0, -1), -15);
        due.same("the least", x.sheet(0, 0, LEAST), -15);
        due.same("a finding", x.count(8), 5);
        due.same("no sheet came", x.lose(0), -11);
    }

    /** "It is LOST: how many items it had. BAD; NULL." */
    private static void p32BadNull() {
        LilyQuarrels x = new LilyQuarrels();
        wrong("lose: which", s -> new LilyQuarrels().lose(s), 0, 3, BAD);
        due.same("lost at first", x.lose(3), -11);
        x.sheet(3, 0, 60);
        due.same("60", x.lose(3), 60);
        due.same("lost", x.lose(3), -11);
        x.sheet(3, 0, 0);
        due.same("none", x.lose(3), 0);
        due.same("lost again", x.lose(3), -11);
    }

    /** "Item i .. becomes v (the lowest bits that it has, with its sign): 1." */
    private static void p33LowestBits() {
        LilyQuarrels x = new LilyQuarrels();
        int[][] want = {{127, 127, 127, 127}, {128, -128, 128, 128}, {255, -1, 255, 255}, {256, 0, 256, 256},
            {-128, -128, -128, -128}, {-129, 127, -129, -129}, {32767, -1, 32767, 32767}, {32768, 0, -32768, 32768},
            {65535, -1, -1, 65535}, {65536, 0, 0, 65536}, {-32768, 0, -32768, -32768}, {-32769, -1, 32767, -32769},
            {MOST, -1, -1, MOST}, {LEAST, 0, 0, LEAST}};
        for (int form = 0; form < 3; form++) {
            x.sheet(form, form, 60);
            for (int[] w : want) {
                due.same("lay", x.lay(form, form, 59, w[0]), 1);
                due.same(w[0] + " of form " + form, x.get(form, form, 59), w[1 + form]);
            }
        }
        due.same("the least int is no finding", x.count(8), 0);
    }

    /** "BAD; NULL; CAST; INDEX." */
    private static void p33Refused() {
        wrong("lay: which", s -> new LilyQuarrels().lay(s, 0, 0, 0), 0, 3, BAD);
        wrong("lay: form", form -> new LilyQuarrels().lay(0, form, 0, 0), 0, 2, BAD);
        LilyQuarrels x = new LilyQuarrels();
        due.same("bad ahead of null", x.lay(0, 3, 0, 0), BAD);
        due.same("null ahead of index", x.lay(0, 0, -1, 0), -11);
        x.sheet(0, 1, 2);
        due.same("bad ahead of cast", x.lay(0, 3, 9, 0), BAD);
        due.same("cast ahead of index", x.lay(0, 2, 2, 0), -13);
        due.same("cast", x.lay(0, 0, 0, 0), -13);
        wrong("lay: item", i -> x.lay(0, 1, i, 0), 0, 1, -12);
        x.sheet(0, 1, 0);
        wrong("lay: item of none", i -> x.lay(0, 1, i, 0), 0, -1, -12);
    }

    /** "Item i of it. BAD: the least int; so are NULL, CAST, INDEX (count() 8 tells)." */
    private static void p34Refused() {
        LilyQuarrels x = new LilyQuarrels();
        for (int number : new int[] {LEAST, -1, 4, MOST}) {
            due.same("get: which", x.get(number, 0, 0), LEAST);
        }
        for (int number : new int[] {LEAST, -1, 3, MOST}) {
            due.same("get: form", x.get(0, number, 0), LEAST);
        }
        due.same("bad is no finding", x.count(8), 0);
        due.same("null", x.get(0, 0, -1), LEAST);
        due.same("null tells", x.count(8), 1);
        x.sheet(0, 1, 2);
        due.same("cast", x.get(0, 2, 2), LEAST);
        due.same("cast tells", x.count(8), 3);
        wrong("get: item", i -> x.get(0, 1, i), 0, 1, LEAST);
        due.same("index tells", x.count(8), 2);
        due.same("bad", x.get(0, 3, 0), LEAST);
        due.same("index tells still", x.count(8), 2);
    }

    /** "Item i of it": the least int itself, which is no refusal */
    private static void p34TheLeastInt() {
        LilyQuarrels x = withSheet(2, LEAST, MOST);
        due.same("the least", x.get(0, 2, 0), LEAST);
        due.same("no finding", x.count(8), 0);
        due.same("the most", x.get(0, 2, 1), MOST);
    }

    private static void items(LilyQuarrels x, int form, int... want) {
        for (int i = 0; i < want.length; i++) {
            due.same("item " + i, x.get(0, form, i), want[i]);
        }
    }

    /** "come to SHEET t (perhaps s, as they were)" */
    private static void p35OntoItself() {
        for (int form = 0; form < 3; form++) {
            LilyQuarrels x = withSheet(form, 1, 2, 3, 4, 5);
            due.same("behind", x.copy(0, 0, 0, 1, 4), 1);
            items(x, form, 1, 1, 2, 3, 4);
            due.same("ahead", x.copy(0, 1, 0, 0, 4), 1);
            items(x, form, 1, 2, 3, 4, 4);
            due.same("where they are", x.copy(0, 0, 0, 0, 5), 1);
            items(x, form, 1, 2, 3, 4, 4);
        }
    }

    /** "BAD: the SHEETS; NULL: s, t; STORE" */
    private static void p35BadNullStore() {
        LilyQuarrels x = withSheet(1, 1, 2, 3);
        wrong("copy: from", s -> x.copy(s, 0, 3, 0, 0), 0, 3, BAD);
        wrong("copy: to", t -> x.copy(3, 0, t, 0, 0), 0, 3, BAD);
        due.same("s is lost", x.copy(3, -1, 0, 0, 1), -11);
        due.same("t is lost", x.copy(0, 0, 3, 9, 1), -11);
        due.same("both are lost", x.copy(2, 0, 3, 0, 0), -11);
        x.sheet(1, 0, 3);
        x.sheet(2, 2, 3);
        due.same("shorts to bytes", x.copy(0, 0, 1, 0, 1), -14);
        due.same("shorts to ints", x.copy(0, 0, 2, 0, 1), -14);
        due.same("bytes to ints, nothing", x.copy(1, 0, 2, 0, 0), -14);
        due.same("store ahead of index", x.copy(0, -1, 2, 9, 99), -14);
    }

    /** "INDEX: below 0, not so many" */
    private static void p35Index() {
        LilyQuarrels x = withSheet(1, 1, 2, 3, 4);
        x.sheet(1, 1, 3);
        int[][] wrong = {{-1, 0, 1}, {0, -1, 1}, {0, 0, -1}, {LEAST, 0, 1}, {0, LEAST, 1}, {0, 0, LEAST}, {0, 0, 4},
            {2, 0, 3}, {0, 1, 3}, {4, 0, 1}, {0, 3, 1}, {0, 0, MOST}, {MOST, 0, 1}, {0, MOST, 1}, {MOST, MOST, MOST},
            {1, 1, MOST}, {4, 3, -1}};
        for (int[] w : wrong) {
            due.same("copy " + w[0] + " " + w[1] + " " + w[2], x.copy(0, w[0], 1, w[1], w[2]), -12);
        }
        due.same("as many as there are", x.copy(0, 1, 1, 0, 3), 1);
        due.same("the last", x.copy(0, 3, 1, 2, 1), 1);
        due.same("the last came", x.get(1, 1, 2), 4);
    }

    /** "(with n 0, too, if i or j is above how many there are)" */
    private static void p35IndexOfNothing() {
        LilyQuarrels x = withSheet(1, 1, 2, 3, 4);
        x.sheet(1, 1, 3);
        x.sheet(2, 1, 0);
        due.same("both at the end", x.copy(0, 4, 1, 3, 0), 1);
        due.same("i above", x.copy(0, 5, 1, 3, 0), -12);
        due.same("j above", x.copy(0, 4, 1, 4, 0), -12);
        due.same("i below", x.copy(0, -1, 1, 0, 0), -12);
        due.same("j below", x.copy(0, 0, 1, -1, 0), -12);
        due.same("i the most", x.copy(0, MOST, 1, 0, 0), -12);
        due.same("j the most", x.copy(0, 0, 1, MOST, 0), -12);
        due.same("a row of none", x.copy(2, 0, 2, 0, 0), 1);
        due.same("behind a row of none", x.copy(2, 1, 2, 0, 0), -12);
    }

    /** "from item 0 on, as many as there are items, 24 at most: how many." */
    private static void p36TwentyFourAtMost() {
        for (int n : new int[] {0, 1, 23, 24, 25, 60}) {
            LilyQuarrels x = two();
            x.sheet(0, 0, n);
            for (int i = 0; i < n; i++) {
                x.lay(0, 0, i, -7);
            }
            int many = Math.min(n, 24);
            due.same("write to " + n, x.write(0, 0), many);
            for (int i = 0; i < n; i++) {
                due.same("item " + i + " of " + n, x.get(0, 0, i), i < many ? x.at(i, 0, 0) : -7);
            }
        }
    }

    /** "BAD; NULL." */
    private static void p36BadNull() {
        LilyQuarrels x = two();
        wrong("write: person", person -> x.write(person, 0), 0, 1, BAD);
        wrong("write: sheet", s -> x.write(0, s), 0, 3, BAD);
        wrong("write: nobody", person -> new LilyQuarrels().write(person, 0), 0, -1, BAD);
        due.same("lost", x.write(1, 3), -11);
        due.same("a finding", x.count(8), 1);
        due.same("bad ahead of null", x.write(2, 3), BAD);
    }

    /** "0 PEOPLE .. 8 the number of the latest FINDING (0 before any). BAD." */
    private static void p37Bad() {
        wrong("count: what", what -> two().count(what), 0, 8, BAD);
        due.same("before any", two().count(8), 0);
    }

    /** "0 PEOPLE, 1 QUARRELS, 2 figures .., 3 to 5 bytes of texts, 6 EVENTS, 7 SEEN": all full */
    private static void p37Full() {
        LilyQuarrels x = Told.of(EIGHT_PEOPLE, EIGHT_QUARRELS, "000000000000000000000000");
        for (int n = 0; n < 9; n++) {
            x.event(0, 0);
            x.seen(0, 0, 0);
        }
        int[] want = {8, 8, 24, 23, 31, 24, 8, 8, 0};
        for (int what = 0; what < 9; what++) {
            due.same("count " + what, x.count(what), want[what]);
        }
    }

    /** "8 the number of the latest FINDING": a refusal that is none, and a call that is well, leave it */
    private static void p37TheLatest() {
        LilyQuarrels x = new LilyQuarrels();
        x.sheet(0, 0, -1);
        x.lose(1);
        due.same("the latest", x.count(8), 1);
        x.lose(9);
        x.undo(0);
        x.sheet(1, 0, 1);
        due.same("still", x.count(8), 1);
        x.sheet(0, 0, -1);
        due.same("another", x.count(8), 5);
    }

    /** "as longs that wrap": of a new object, without any wrap until the end */
    private static void p38Wraps() {
        List<Integer> row = new ArrayList<>(List.of(0, 0, 0, 0, 0, 0, 0, 0, -1, -1, -1));
        for (int day = 0; day < 24; day++) {
            row.addAll(List.of(3, Math.min(20, 3 * day + 3), 0));
        }
        row.addAll(List.of(-1, -1, 0, -1, 0, 0, 0, 0, -1, 0, 0, 0));
        BigInteger h = BigInteger.valueOf(17);
        for (int r : row) {
            h = h.multiply(BigInteger.valueOf(31)).add(BigInteger.valueOf(r));
        }
        due.yes("more than any long", h.bitLength() > 64);
        due.same("its lowest 64 bits", new LilyQuarrels().digest(), h.longValue());
    }
}
