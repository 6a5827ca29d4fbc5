/** Promises 9 to 11: event, back, read. */
public final class EventsTest {
    private static final Due due = new Due();

    public static void main(String[] args) {
        events();
        reading();
        readingWrong();
        due.end();
    }

    private static void events() {
        LilyQuarrels x = new LilyQuarrels();
        due.same("back of none", x.back(), -3);
        due.same("kind -1", x.event(-1, 0), -2);
        due.same("kind 2", x.event(2, 0), -2);
        due.same("day -1", x.event(0, -1), -2);
        due.same("day 24", x.event(1, 24), -2);
        due.same("none came", x.count(6), 0);
        for (int i = 1; i <= 8; i++) {
            due.same("event", x.event(i % 2, i % 3 == 0 ? 23 : 0), i);
        }
        due.same("a ninth", x.event(0, 0), -4);
        due.same("bad ahead of full", x.event(2, 0), -2);
        for (int i = 7; i >= 0; i--) {
            due.same("back", x.back(), i);
        }
        due.same("back of none again", x.back(), -3);
    }

    /** No quarrels: stock shows the frosts that came. */
    private static void reading() {
        LilyQuarrels x = new LilyQuarrels();
        x.sheet(2, 2, 7);
        int[] items = {1, 0, 0, 4, 1, 23, 1};
        for (int i = 0; i < 7; i++) {
            x.lay(2, 2, i, items[i]);
        }
        due.same("stock before", x.stock(0, 0), 3);
        due.same("three whole ones", x.read(2), 3);
        due.same("three are there", x.count(6), 3);
        due.same("a frost on day 0", x.stock(0, 0), 0);
        due.same("a rain on day 4", x.stock(4, 0), 12);
        due.same("the sheet stays", x.get(2, 2, 3), 4);
        due.same("three more", x.read(2), 3);
        due.same("room for two", x.read(2), 2);
        due.same("no room", x.read(2), 0);
        due.same("eight", x.count(6), 8);
        x.back();
        due.same("room for one", x.read(2), 1);
        x.sheet(2, 0, 0);
        due.same("an empty sheet", x.read(2), 0);
        x.sheet(2, 1, 1);
        due.same("half of one", x.read(2), 0);
    }

    private static void readingWrong() {
        int[][] wrong = {{2, 0}, {-1, 0}, {0, 24}, {1, -1}};
        for (int[] pair : wrong) {
            LilyQuarrels x = new LilyQuarrels();
            x.sheet(0, 0, 6);
            x.lay(0, 0, 0, 1);
            x.lay(0, 0, 2, pair[0]);
            x.lay(0, 0, 3, pair[1]);
            due.same("as long as each may be", x.read(0), 1);
            due.same("one came", x.count(6), 1);
        }
        LilyQuarrels x = new LilyQuarrels();
        due.same("read -1", x.read(-1), -2);
        due.same("read 4", x.read(4), -2);
        due.same("no finding of bad", x.count(8), 0);
        due.same("read a lost one", x.read(3), -11);
        due.same("the finding", x.count(8), 1);
    }
}
