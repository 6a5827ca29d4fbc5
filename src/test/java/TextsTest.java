/** Promises 1 to 8: a new object; type, wipe, undo, fault, person, quarrel, glass. */
public final class TextsTest {
    private static final Due due = new Due();

    public static void main(String[] args) {
        newObject();
        typing();
        wipingAndUndoing();
        faultsOfPeople();
        faultsOfQuarrels();
        faultsOfTheGlass();
        people();
        quarrels();
        glass();
        due.end();
    }

    private static void newObject() {
        LilyQuarrels x = new LilyQuarrels();
        for (int what = 0; what <= 8; what++) {
            due.same("new count " + what, x.count(what), 0);
        }
        for (int s = 0; s < 4; s++) {
            due.same("new lose " + s, x.lose(s), -11);
        }
        for (int text = 0; text < 3; text++) {
            due.same("new fault " + text, x.fault(text), LilyQuarrels.NONE);
        }
        due.same("NONE", LilyQuarrels.NONE, -1);
        due.same("BAD", LilyQuarrels.BAD, -2);
        due.same("NOT", LilyQuarrels.NOT, -3);
        due.same("FULL", LilyQuarrels.FULL, -4);
    }

    private static void typing() {
        LilyQuarrels x = new LilyQuarrels();
        int[] most = {23, 31, 24};
        for (int text = 0; text < 3; text++) {
            due.same("type below", x.type(text, -1), -2);
            due.same("type above", x.type(text, 256), -2);
            for (int i = 1; i <= most[text]; i++) {
                due.same("type " + text, x.type(text, i % 2 == 0 ? 0 : 255), i);
            }
            due.same("type full", x.type(text, 0), -4);
            due.same("type bad ahead of full", x.type(text, 256), -2);
            due.same("full bytes", x.count(3 + text), most[text]);
        }
        due.same("type text -1", x.type(-1, 0), -2);
        due.same("type text 3", x.type(3, 0), -2);
        due.same("type least", x.type(Integer.MIN_VALUE, Integer.MAX_VALUE), -2);
    }

    private static void wipingAndUndoing() {
        LilyQuarrels x = Told.of("c4;h5", "01a", "90");
        due.same("undo", x.undo(0), 4);
        due.same("people are none with a fault", x.count(0), 0);
        due.same("undo again", x.undo(0), 3);
        due.same("undo to one", x.undo(0), 2);
        due.same("person again", x.count(0), 1);
        due.same("wipe people", x.wipe(0), 2);
        due.same("wiped people", x.count(3), 0);
        due.same("wipe an empty one", x.wipe(0), 0);
        due.same("undo an empty one", x.undo(0), -3);
        due.same("other texts stay", x.count(4), 3);
        due.same("wipe quarrels", x.wipe(1), 3);
        due.same("wiped quarrels", x.count(1), 0);
        due.same("undo glass", x.undo(2), 1);
        due.same("glass after undo", x.glass(1), 3);
        due.same("glass left", x.glass(0), 9);
        due.same("wipe glass", x.wipe(2), 1);
        due.same("glass wiped", x.glass(0), 3);
        for (int text : new int[] {-1, 3, Integer.MAX_VALUE, Integer.MIN_VALUE}) {
            due.same("wipe " + text, x.wipe(text), -2);
            due.same("undo " + text, x.undo(text), -2);
            due.same("fault " + text, x.fault(text), -2);
        }
    }

    private static void fault(int text, String bytes, int want) {
        LilyQuarrels x = new LilyQuarrels();
        Told.type(x, text, bytes);
        due.same("fault of " + bytes, x.fault(text), want);
        if (want != LilyQuarrels.NONE) {
            due.same("things of faulty " + bytes, x.count(text), 0);
            due.same("bytes of faulty " + bytes, x.count(3 + text), bytes.length());
        }
    }

    private static void faultsOfPeople() {
        fault(0, "", -1);
        fault(0, "c", 1);
        fault(0, "c1", -1);
        fault(0, "c0", 1);
        fault(0, "c:", 1);
        fault(0, "m9", -1);
        fault(0, "h5;", 3);
        fault(0, "h5;;", 3);
        fault(0, "h5c", 2);
        fault(0, "h5;c", 4);
        fault(0, "h5;c3", -1);
        fault(0, "h5;C3", 3);
        fault(0, ";", 0);
        fault(0, "x1;c", 0);
        fault(0, "c1;c1;c1;c1;c1;c1;c1;c1", -1);
        fault(0, "c1;c1;c1;c1;c1;c1;c1;", 21);
        fault(0, "c1;c1;c1;c1;c1;c1;c1;c", 22);
        for (int b = 0; b < 256; b++) {
            LilyQuarrels x = new LilyQuarrels();
            x.type(0, b);
            due.same("first byte " + b, x.fault(0), b == 'c' || b == 'm' || b == 'h' ? 1 : 0);
            x = Told.of("m", "", "");
            x.type(0, b);
            due.same("second byte " + b, x.fault(0), b >= '1' && b <= '9' ? -1 : 1);
            x = Told.of("m1", "", "");
            x.type(0, b);
            due.same("third byte " + b, x.fault(0), b == ';' ? 3 : 2);
        }
    }

    private static void faultsOfQuarrels() {
        fault(1, "0", 1);
        fault(1, "07", 2);
        fault(1, "07a", -1);
        fault(1, "70x", -1);
        fault(1, "33c", -1);
        fault(1, "07y", 2);
        fault(1, "08a", 1);
        fault(1, "80a", 0);
        fault(1, "07a;", 4);
        fault(1, "07a1", 3);
        fault(1, "07a;1", 5);
        fault(1, "07a;12", 6);
        fault(1, "07a;12x", -1);
        fault(1, "01a;01a;01a;01a;01a;01a;01a;01a", -1);
        fault(1, "01a;01a;01a;01a;01a;01a;01a;01", 30);
        for (int b = 0; b < 256; b++) {
            LilyQuarrels x = new LilyQuarrels();
            x.type(1, b);
            due.same("first byte " + b, x.fault(1), b >= '0' && b <= '7' ? 1 : 0);
            x = Told.of("", "0", "");
            x.type(1, b);
            due.same("second byte " + b, x.fault(1), b >= '0' && b <= '7' ? 2 : 1);
            x = Told.of("", "01", "");
            x.type(1, b);
            due.same("third byte " + b, x.fault(1), b >= 'a' && b <= 'x' ? -1 : 2);
            x = Told.of("", "01a", "");
            x.type(1, b);
            due.same("fourth byte " + b, x.fault(1), b == ';' ? 4 : 3);
        }
    }

    private static void faultsOfTheGlass() {
        fault(2, "0", -1);
        fault(2, "012345678901234567890123", -1);
        fault(2, "01;", 2);
        fault(2, ";", 0);
        for (int b = 0; b < 256; b++) {
            LilyQuarrels x = Told.of("", "", "7");
            x.type(2, b);
            due.same("glass byte " + b, x.fault(2), b >= '0' && b <= '9' ? -1 : 1);
        }
    }

    private static void people() {
        LilyQuarrels x = Told.of("c1;m5;h9", "", "");
        int[][] want = {{0, 1}, {1, 5}, {2, 9}};
        for (int person = 0; person < 3; person++) {
            due.same("sort of " + person, x.person(person, 0), want[person][0]);
            due.same("temper of " + person, x.person(person, 1), want[person][1]);
        }
        due.same("person -1", x.person(-1, 0), -2);
        due.same("person 3", x.person(3, 0), -2);
        due.same("person what -1", x.person(0, -1), -2);
        due.same("person what 2", x.person(0, 2), -2);
        x.type(0, ';');
        due.same("person of a faulty text", x.person(0, 0), -2);
        x = Told.of("c1;m2;h3;c4;m5;h6;c7;m8", "", "");
        due.same("the eighth", x.person(7, 1), 8);
        due.same("no ninth", x.person(8, 1), -2);
    }

    private static void quarrels() {
        LilyQuarrels x = Told.of("", "07a;65x;33c", "");
        int[][] want = {{0, 7, 0}, {6, 5, 23}, {3, 3, 2}};
        for (int quarrel = 0; quarrel < 3; quarrel++) {
            for (int what = 0; what < 3; what++) {
                due.same("quarrel " + quarrel + " " + what, x.quarrel(quarrel, what), want[quarrel][what]);
            }
        }
        due.same("quarrel -1", x.quarrel(-1, 0), -2);
        due.same("quarrel 3", x.quarrel(3, 0), -2);
        due.same("quarrel what -1", x.quarrel(0, -1), -2);
        due.same("quarrel what 3", x.quarrel(0, 3), -2);
        x.undo(1);
        due.same("quarrel of a faulty text", x.quarrel(0, 0), -2);
        x = Told.of("", "01a;01b;01c;01d;01e;01f;01g;01h", "");
        due.same("eight", x.count(1), 8);
        due.same("the eighth", x.quarrel(7, 2), 7);
        due.same("no ninth", x.quarrel(8, 2), -2);
    }

    private static void glass() {
        LilyQuarrels x = Told.of("", "", "90817");
        int[] want = {9, 0, 8, 1, 7};
        for (int day = 0; day < 24; day++) {
            due.same("glass " + day, x.glass(day), day < 5 ? want[day] : 3);
        }
        x.event(1, 0);
        due.same("glass with a frost", x.glass(0), 9);
        due.same("glass -1", x.glass(-1), -2);
        due.same("glass 24", x.glass(24), -2);
        x.type(2, 'a');
        due.same("glass of a faulty text", x.glass(0), 3);
    }
}
