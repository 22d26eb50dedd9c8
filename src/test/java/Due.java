/** Counts the answers of one test that are not as due, and tells them. */
final class Due {
    private final String test;
    private int asked = 0;
    private int wrong = 0;

    Due(String test) {
        this.test = test;
    }

    void is(String what, long got, long want) {
        asked++;
        if (got != want) {
            wrong++;
            System.out.println(test + ": " + what + " answered " + got + ", due is " + want);
        }
    }

    /** Both parts of a fraction, told as one call's upper and lower answer. */
    void isFraction(String what, long above, long below, long wantAbove, long wantBelow) {
        is(what + " above", above, wantAbove);
        is(what + " below", below, wantBelow);
    }

    void end() {
        System.out.println(test + ": " + asked + " answers, " + wrong + " not as due");
        if (wrong != 0 || asked == 0) {
            System.exit(1);
        }
    }
}
