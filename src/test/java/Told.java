/** Makes objects from texts as one would write them down. */
final class Told {
    private Told() {
    }

    static LilyQuarrels of(String people, String quarrels, String glass) {
        LilyQuarrels x = new LilyQuarrels();
        type(x, 0, people);
        type(x, 1, quarrels);
        type(x, 2, glass);
        return x;
    }

    static void type(LilyQuarrels x, int text, String bytes) {
        for (int i = 0; i < bytes.length(); i++) {
            if (x.type(text, bytes.charAt(i)) < 0) {
                throw new IllegalStateException("a test's text is too long: " + bytes);
            }
        }
    }

    static void retype(LilyQuarrels x, int text, String bytes) {
        x.wipe(text);
        type(x, text, bytes);
    }
}
