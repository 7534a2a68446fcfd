/** Counts and prints the answers that are not due, and ends the test by them. */
class Dues {
    static final int NONE = -1;
    static final long NOTHING = -1000000000000000L;
    /** Arguments that are far from all that the document names. */
    static final int[] FAR = {Integer.MIN_VALUE, -1000000, 1000000, Integer.MAX_VALUE};

    /** Far more than a test needs, so that a call that never ends fails it. */
    private static final long MOST_MILLISECONDS = 300000;

    private int wrong;
    private String place = "";

    Dues() {
        Thread watch = new Thread(Dues::endTooLong);
        watch.setDaemon(true);
        watch.start();
    }

    private static void endTooLong() {
        try {
            Thread.sleep(MOST_MILLISECONDS);
            System.out.println("a call does not end");
            Runtime.getRuntime().halt(1);
        } catch (InterruptedException thrown) {
            Thread.currentThread().interrupt();
        }
    }

    final void at(String newPlace) {
        place = newPlace;
    }

    final void due(String call, long got, long want) {
        if (got != want) {
            tell(call + " answered " + got + ", due is " + want);
        }
    }

    final void holds(String what, boolean right) {
        if (!right) {
            tell(what + " does not hold");
        }
    }

    private void tell(String text) {
        wrong++;
        // A broken promise may fail thousands of times; the first ones say enough.
        if (wrong <= 40) {
            System.out.println(place + ": " + text);
        }
    }

    final void end() {
        System.out.println(wrong == 0 ? "all answers are as due" : wrong + " answers are not as due");
        if (wrong != 0) {
            System.exit(1);
        }
    }

    static int[] eq(int a, int b, int c, int d, int sum) {
        return new int[] {a, b, c, d, sum};
    }

    /** A new object with so many unknowns and these equations. */
    final WholeSolver solver(int unknowns, int[]... equations) {
        WholeSolver x = new WholeSolver();
        due("unknowns", x.unknowns(unknowns), 1);
        for (int e = 0; e < equations.length; e++) {
            int[] q = equations[e];
            due("equation", x.equation(q[0], q[1], q[2], q[3], q[4]), e);
        }
        return x;
    }

    final void counts(WholeSolver x, int reach, int basis, int equations, int unknowns) {
        due("count(0)", x.count(0), reach);
        due("count(1)", x.count(1), basis);
        due("count(2)", x.count(2), equations);
        due("count(3)", x.count(3), unknowns);
    }

    final void solutionIs(WholeSolver x, long... want) {
        for (int j = 0; j < want.length; j++) {
            due("solution(" + j + ")", x.solution(j), want[j]);
        }
    }

    final void basisRowIs(WholeSolver x, int i, long... want) {
        for (int j = 0; j < want.length; j++) {
            due("basis(" + i + ", " + j + ")", x.basis(i, j), want[j]);
        }
    }

    final void reachRowIs(WholeSolver x, int i, long... want) {
        for (int j = 0; j < want.length; j++) {
            due("reach(" + i + ", " + j + ")", x.reach(i, j), want[j]);
        }
    }
}
