/** Promises 31 to 36: sheet, lose, lay, get, copy, write. */
public final class SheetsTest {
    private static final Due due = new Due();
    private static final int LEAST = Integer.MIN_VALUE;

    public static void main(String[] args) {
        sheets();
        losing();
        laying();
        layingRefused();
        getting();
        copying();
        copyingRefused();
        writing();
        due.end();
    }

    private static void sheets() {
        LilyQuarrels x = new LilyQuarrels();
        due.same("sheet -1", x.sheet(-1, 0, 0), -2);
        due.same("sheet 4", x.sheet(4, 0, 0), -2);
        due.same("form -1", x.sheet(0, -1, 0), -2);
        due.same("form 3", x.sheet(0, 3, 0), -2);
        due.same("61 items", x.sheet(0, 0, 61), -2);
        due.same("bad ahead of size", x.sheet(0, 3, -1), -2);
        due.same("no finding", x.count(8), 0);
        due.same("size", x.sheet(0, 0, -1), -15);
        due.same("the finding", x.count(8), 5);
        due.same("least size", x.sheet(0, 0, LEAST), -15);
        due.same("still lost", x.lose(0), -11);
        due.same("no items", x.sheet(0, 0, 0), 0);
        due.same("60 items", x.sheet(3, 2, 60), 60);
        x.lay(3, 2, 59, 5);
        due.same("size of one there", x.sheet(3, 1, -1), -15);
        due.same("it stays", x.get(3, 2, 59), 5);
        due.same("a new row", x.sheet(3, 2, 60), 60);
        due.same("of noughts", x.get(3, 2, 59), 0);
        x.lay(3, 2, 59, 5);
        x.sheet(3, 2, 10);
        x.sheet(3, 2, 60);
        due.same("of noughts again", x.get(3, 2, 59), 0);
    }

    private static void losing() {
        LilyQuarrels x = new LilyQuarrels();
        due.same("lose -1", x.lose(-1), -2);
        due.same("lose 4", x.lose(4), -2);
        due.same("lost at first", x.lose(1), -11);
        due.same("the finding", x.count(8), 1);
        x.sheet(1, 1, 7);
        due.same("lose", x.lose(1), 7);
        due.same("lost", x.lose(1), -11);
        x.sheet(1, 0, 0);
        due.same("one of no items", x.lose(1), 0);
    }

    private static void laying() {
        LilyQuarrels x = new LilyQuarrels();
        int[] values = {0, 1, -1, 127, 128, 255, 256, -128, -129, 32767, 32768, 65535, 65536, -32769,
            Integer.MAX_VALUE, LEAST};
        x.sheet(0, 0, 60);
        x.sheet(1, 1, 60);
        x.sheet(2, 2, 60);
        for (int i = 0; i < values.length; i++) {
            for (int form = 0; form < 3; form++) {
                due.same("lay", x.lay(form, form, i, values[i]), 1);
            }
        }
        for (int i = 0; i < values.length; i++) {
            due.same("byte " + values[i], x.get(0, 0, i), (byte) values[i]);
            due.same("short " + values[i], x.get(1, 1, i), (short) values[i]);
            due.same("int " + values[i], x.get(2, 2, i), values[i]);
        }
        due.same("other items stay", x.get(2, 2, 59), 0);
    }

    private static void layingRefused() {
        LilyQuarrels x = new LilyQuarrels();
        due.same("lay -1", x.lay(-1, 0, 0, 0), -2);
        due.same("lay 4", x.lay(4, 0, 0, 0), -2);
        due.same("lay form -1", x.lay(0, -1, 0, 0), -2);
        due.same("lay form 3 on a lost one", x.lay(0, 3, 0, 0), -2);
        due.same("no finding", x.count(8), 0);
        due.same("lay null", x.lay(0, 0, 0, 0), -11);
        due.same("null", x.count(8), 1);
        x.sheet(0, 1, 3);
        due.same("a call that is well keeps the finding", x.count(8), 1);
        due.same("cast ahead of index", x.lay(0, 0, 3, 0), -13);
        due.same("cast", x.count(8), 3);
        due.same("index above", x.lay(0, 1, 3, 0), -12);
        due.same("index", x.count(8), 2);
        due.same("index below", x.lay(0, 1, -1, 0), -12);
        due.same("last one", x.lay(0, 1, 2, 9), 1);
    }

    private static void getting() {
        LilyQuarrels x = new LilyQuarrels();
        due.same("get -1", x.get(-1, 0, 0), LEAST);
        due.same("get 4", x.get(4, 0, 0), LEAST);
        due.same("get form 3", x.get(0, 3, 0), LEAST);
        due.same("get form -1", x.get(0, -1, 0), LEAST);
        due.same("bad is no finding", x.count(8), 0);
        due.same("get null", x.get(0, 0, 0), LEAST);
        due.same("null", x.count(8), 1);
        x.sheet(0, 2, 2);
        due.same("get cast", x.get(0, 0, 5), LEAST);
        due.same("cast", x.count(8), 3);
        due.same("get index", x.get(0, 2, 2), LEAST);
        due.same("index", x.count(8), 2);
        due.same("get below", x.get(0, 2, -1), LEAST);
        due.same("get", x.get(0, 2, 1), 0);
        due.same("bad keeps the finding", x.get(0, 3, 0), LEAST);
        due.same("index still", x.count(8), 2);
    }

    private static LilyQuarrels rows() {
        LilyQuarrels x = new LilyQuarrels();
        x.sheet(0, 1, 6);
        x.sheet(1, 1, 4);
        x.sheet(2, 2, 6);
        for (int i = 0; i < 6; i++) {
            x.lay(0, 1, i, 10 + i);
        }
        return x;
    }

    private static void items(LilyQuarrels x, int s, int... want) {
        for (int i = 0; i < want.length; i++) {
            due.same("item " + i + " of " + s, x.get(s, 1, i), want[i]);
        }
    }

    private static void copying() {
        LilyQuarrels x = rows();
        due.same("copy", x.copy(0, 2, 1, 1, 3), 1);
        items(x, 1, 0, 12, 13, 14);
        items(x, 0, 10, 11, 12, 13, 14, 15);
        due.same("onto itself, behind", x.copy(0, 0, 0, 1, 5), 1);
        items(x, 0, 10, 10, 11, 12, 13, 14);
        due.same("onto itself, ahead", x.copy(0, 1, 0, 0, 5), 1);
        items(x, 0, 10, 11, 12, 13, 14, 14);
        due.same("nothing", x.copy(0, 6, 1, 4, 0), 1);
        due.same("all", x.copy(1, 0, 0, 2, 4), 1);
        items(x, 0, 10, 11, 0, 12, 13, 14);
    }

    private static void copyingRefused() {
        LilyQuarrels x = rows();
        due.same("from -1", x.copy(-1, 0, 0, 0, 0), -2);
        due.same("from 4", x.copy(4, 0, 0, 0, 0), -2);
        due.same("to -1", x.copy(3, 0, -1, 0, 0), -2);
        due.same("to 4", x.copy(3, 0, 4, 0, 0), -2);
        due.same("no finding", x.count(8), 0);
        due.same("from a lost one", x.copy(3, 0, 2, 0, 99), -11);
        due.same("to a lost one", x.copy(0, 9, 3, 0, 0), -11);
        due.same("null", x.count(8), 1);
        due.same("store ahead of index", x.copy(0, 0, 2, 0, 99), -14);
        due.same("store of nothing", x.copy(0, 0, 2, 0, 0), -14);
        due.same("store", x.count(8), 4);
        int[][] wrong = {{-1, 0, 1}, {0, -1, 1}, {0, 0, -1}, {0, 0, 5}, {4, 0, 3}, {0, 2, 3}, {7, 0, 0}, {0, 5, 0},
            {-1, 0, 0}, {0, -1, 0}, {1, 0, Integer.MAX_VALUE}, {Integer.MAX_VALUE, 0, 1}, {0, Integer.MAX_VALUE, 1},
            {LEAST, 0, 1}, {0, 0, LEAST}, {Integer.MAX_VALUE, Integer.MAX_VALUE, Integer.MAX_VALUE}};
        for (int[] w : wrong) {
            x.lose(3);
            due.same("copy " + w[0] + " " + w[1] + " " + w[2], x.copy(0, w[0], 1, w[1], w[2]), -12);
            due.same("index", x.count(8), 2);
        }
        items(x, 0, 10, 11, 12, 13, 14, 15);
        items(x, 1, 0, 0, 0, 0);
    }

    private static void writing() {
        LilyQuarrels x = Told.of("c4;h5", "01a", "");
        due.same("write to a lost one", x.write(0, 0), -11);
        due.same("null", x.count(8), 1);
        due.same("person -1", x.write(-1, 0), -2);
        due.same("bad ahead of null", x.write(2, 0), -2);
        due.same("sheet -1", x.write(0, -1), -2);
        due.same("sheet 4", x.write(0, 4), -2);
        for (int form = 0; form < 3; form++) {
            x.sheet(form, form, 60);
            x.lay(form, form, 24, 77);
            due.same("24 at most", x.write(0, form), 24);
            for (int day = 0; day < 24; day++) {
                due.same("gold on " + day, x.get(form, form, day), x.at(day, 0, 0));
            }
            due.same("no more", x.get(form, form, 24), 77);
        }
        x.sheet(3, 2, 5);
        due.same("as many as there are", x.write(1, 3), 5);
        due.same("the hard one on day 0", x.get(3, 2, 0), 1);
        due.same("the hard one", x.get(3, 2, 4), 3);
        x.sheet(3, 2, 0);
        due.same("none", x.write(1, 3), 0);
    }
}
