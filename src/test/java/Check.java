/** Counts the answers that are not as due, and ends a test by them. */
final class Check {
    private int asDue;
    private int wrong;

    void due(String call, long got, long want) {
        if (got == want) {
            asDue++;
            return;
        }
        wrong++;
        if (wrong <= 20) {
            System.out.println(call + " answered " + got + ", due is " + want);
        }
    }

    void holds(String what, boolean isSo) {
        due(what, isSo ? 1 : 0, 1);
    }

    int answers() {
        return asDue + wrong;
    }

    void end() {
        System.out.println(asDue + " answers as due, " + wrong + " not");
        if (wrong != 0 || asDue == 0) {
            System.exit(1);
        }
    }
}
