/** Makes objects from texts as one would write them down. */
final class Told {
    private Told() {
    }

    static LilyQuarrels of(String people, String quarrels, String glass) {
        LilyQuarrels x = new LilyQuarrels();
        type(x, 0, people);
        type(x, 1, quarrels);
        type(x, 2, glass);
        return x;
    }

    static void type(LilyQuarrels x, int text, String bytes) {
        for (int i = 0; i < bytes.length(); i++) {
            if (x.type(text, bytes.charAt(i)) < 0) {
                throw new IllegalStateException("a test's text is too long: " + bytes);
            }
        }
    }

    static void retype(LilyQuarrels x, int text, String bytes) {
        x.wipe(text);
        type(x, text, bytes);
    }

    /** What n lots of 10 are by a seed, as figures of the glass. */
    static String lots(int seed, int n) {
        StringBuilder figures = new StringBuilder();
        long s = seed & 0xffffffffL;
        for (int i = 0; i < n; i++) {
            s = (1103515245L * s + 12345L) & 0xffffffffL;
            figures.append(s / 65536 % 10);
        }
        return figures.toString();
    }

    /** The gold of all together behind the last day. */
    static int allGold(LilyQuarrels x) {
        int all = 0;
        for (int person = 0; person < x.count(0); person++) {
            all += x.at(23, person, 0);
        }
        return all;
    }
}
