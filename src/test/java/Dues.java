/** Counts and prints the answers that are not due, and ends the test by them. */
final class Dues {
    private int wrong;
    private String place = "";

    void at(String newPlace) {
        place = newPlace;
    }

    void due(String call, long got, long want) {
        if (got != want) {
            tell(call + " answered " + got + ", due is " + want);
        }
    }

    void holds(String what, boolean right) {
        if (!right) {
            tell(what + " does not hold");
        }
    }

    private void tell(String text) {
        wrong++;
        // A broken promise may fail thousands of times; the first ones say enough.
        if (wrong <= 40) {
            System.out.println(place + ": " + text);
        }
    }

    void end() {
        System.out.println(wrong == 0 ? "all answers are as due" : wrong + " answers are not as due");
        if (wrong != 0) {
            System.exit(1);
        }
    }
}
