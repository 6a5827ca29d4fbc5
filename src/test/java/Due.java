/** Tells every answer that is not the one that is due, and ends the test with 1 if there was one. */
final class Due {
    private int looked;
    private int wrong;

    void same(String call, long got, long want) {
        looked++;
        if (got != want) {
            wrong++;
            if (wrong <= 40) {
                System.out.println(call + " answered " + got + ", due is " + want);
            }
        }
    }

    void yes(String claim, boolean holds) {
        same(claim, holds ? 1 : 0, 1);
    }

    void end() {
        System.out.println(looked + " answers looked at, " + wrong + " wrong");
        System.exit(wrong == 0 && looked > 0 ? 0 : 1);
    }
}
