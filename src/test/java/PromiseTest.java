/** Each promise of the document in turn: ordinary inputs, the edges that it names, wrong inputs. */
final class PromiseTest extends Dues {
    public static void main(String[] args) {
        PromiseTest test = new PromiseTest();
        test.eachPromise();
        test.end();
    }

    private void eachPromise() {
        aNewObject();
        unknowns();
        equation();
        sum();
        drop();
        solve();
        fails();
        solution();
        basis();
        count();
        reach();
        reached();
        invariant();
        box();
        modulo();
        spread();
        check();
    }

    private void aNewObject() {
        at("promise 1");
        WholeSolver x = new WholeSolver();
        counts(x, 0, 1, 0, 1);
        due("solve()", x.solve(), 1);
        basisRowIs(x, 0, 1);
        solutionIs(x, 0);
        // An object of its own: what is told to one is not told to another.
        WholeSolver y = new WholeSolver();
        x.unknowns(3);
        x.equation(1, 2, 3, 0, 4);
        counts(y, 0, 1, 0, 1);
    }

    private void unknowns() {
        at("promise 2");
        for (int n = 1; n <= 4; n++) {
            WholeSolver x = solver(1, eq(5, 0, 0, 0, 10), eq(3, 0, 0, 0, 7));
            due("unknowns(" + n + ")", x.unknowns(n), 1);
            counts(x, 0, n, 0, n);
            due("solve()", x.solve(), n);
        }
        WholeSolver x = solver(2, eq(1, 0, 0, 0, 3), eq(0, 1, 0, 0, 4));
        for (int n : new int[] {0, 5, -1, -2, 8, FAR[0], FAR[1], FAR[2], FAR[3]}) {
            due("unknowns(" + n + ")", x.unknowns(n), 0);
            counts(x, 2, 0, 2, 2);
            solutionIs(x, 3, 4);
        }
        due("unknowns(2)", x.unknowns(2), 1);
        counts(x, 0, 2, 0, 2);
        due("fails()", x.fails(), NONE);
    }

    private void equation() {
        at("promise 3");
        WholeSolver x = new WholeSolver();
        x.unknowns(4);
        due("edges", x.equation(-9, 9, -9, 9, 1000), 0);
        due("edges", x.equation(9, -9, 9, -9, -1000), 1);
        due("9 does not divide 1000", x.fails(), 0);
        due("sum(0, 999)", x.sum(0, 999), 1);
        due("nor -1000", x.fails(), 1);
        due("sum(1, -999)", x.sum(1, -999), 1);
        due("but 999 and -999", x.solve(), 3);
        due("zeros", x.equation(0, 0, 0, 0, 0), 2);
        due("a fourth", x.equation(1, 1, 1, 1, 1), NONE);
        due("a fourth that is wrong too", x.equation(10, 1, 1, 1, 1), NONE);
        counts(x, 1, 3, 3, 4);
        for (int n = 1; n <= 4; n++) {
            for (int j = 0; j < 4; j++) {
                factorOfUnknown(n, j, 10);
                factorOfUnknown(n, j, -10);
                factorOfUnknown(n, j, FAR[0]);
                factorOfUnknown(n, j, FAR[3]);
            }
            sumOfNewEquation(n);
        }
        afterNotLookedAt();
    }

    private void factorOfUnknown(int n, int j, int factor) {
        WholeSolver x = solver(n);
        int[] f = {1, 1, 1, 1};
        f[j] = factor;
        due("equation of " + n + " unknowns, factor " + j + " = " + factor,
                x.equation(f[0], f[1], f[2], f[3], 0), j < n ? NONE : 0);
        due("equations then", x.count(2), j < n ? 0 : 1);
    }

    private void sumOfNewEquation(int n) {
        for (int wrong : new int[] {1001, -1001, FAR[0], FAR[1], FAR[2], FAR[3]}) {
            WholeSolver x = solver(n);
            due("sum " + wrong, x.equation(1, 1, 1, 1, wrong), NONE);
            counts(x, 0, n, 0, n);
        }
    }

    private void afterNotLookedAt() {
        WholeSolver x = solver(2);
        due("equation", x.equation(3, 5, 77, -77, 1), 0);
        due("invariant(1)", x.invariant(1), 1);
        due("box(-12, 12)", x.box(-12, 12), 5);
        basisRowIs(x, 0, 5, -3, NOTHING);
        due("unknowns(4)", x.unknowns(4), 1);
        due("equation", x.equation(0, 0, 2, 0, 4), 0);
        solutionIs(x, 0, 0, 2, 0);
    }

    private void sum() {
        at("promise 4");
        WholeSolver x = solver(2, eq(2, 0, 0, 0, 6), eq(0, 5, 0, 0, 10));
        due("sum(0, -8)", x.sum(0, -8), 1);
        solutionIs(x, -4, 2);
        due("sum(1, 1000)", x.sum(1, 1000), 1);
        due("sum(0, -1000)", x.sum(0, -1000), 1);
        solutionIs(x, -500, 200);
        for (int e : new int[] {2, 3, -1, FAR[0], FAR[1], FAR[2], FAR[3]}) {
            due("sum(" + e + ", 0)", x.sum(e, 0), 0);
        }
        for (int wrong : new int[] {1001, -1001, FAR[0], FAR[1], FAR[2], FAR[3]}) {
            due("sum(0, " + wrong + ")", x.sum(0, wrong), 0);
            due("sum(1, " + wrong + ")", x.sum(1, wrong), 0);
        }
        solutionIs(x, -500, 200);
        due("sum(0, 7)", x.sum(0, 7), 1);
        due("fails()", x.fails(), 0);
        due("sum(0, 8)", x.sum(0, 8), 1);
        due("fails()", x.fails(), NONE);
        due("drop()", x.drop(), 1);
        due("sum of a dropped one", x.sum(1, 5), 0);
        due("sum without equations", new WholeSolver().sum(0, 0), 0);
    }

    private void drop() {
        at("promise 5");
        WholeSolver x = solver(3, eq(2, 0, 0, 0, 4), eq(0, 3, 0, 0, 9), eq(0, 0, 4, 0, 5));
        due("solve()", x.solve(), NONE);
        due("drop()", x.drop(), 2);
        counts(x, 2, 1, 2, 3);
        solutionIs(x, 2, 3, 0);
        due("equation", x.equation(0, 0, 4, 0, 8), 2);
        solutionIs(x, 2, 3, 2);
        due("drop()", x.drop(), 2);
        due("drop()", x.drop(), 1);
        basisRowIs(x, 0, 0, 1, 0);
        basisRowIs(x, 1, 0, 0, 1);
        due("drop()", x.drop(), 0);
        due("drop()", x.drop(), NONE);
        due("drop()", x.drop(), NONE);
        counts(x, 0, 3, 0, 3);
        due("drop() of a new object", new WholeSolver().drop(), NONE);
        due("equation after that", x.equation(1, 1, 1, 1, 1), 0);
    }

    private void solve() {
        at("promise 6");
        due("no equation", solver(4).solve(), 4);
        due("one", solver(4, eq(1, 2, 3, 4, 5)).solve(), 3);
        due("three", solver(4, eq(1, 0, 0, 0, 5), eq(0, 1, 0, 0, 5), eq(0, 0, 1, 0, 5)).solve(), 1);
        due("the same twice", solver(2, eq(2, 4, 0, 0, 6), eq(2, 4, 0, 0, 6)).solve(), 1);
        due("the same with two sums", solver(2, eq(2, 4, 0, 0, 6), eq(2, 4, 0, 0, 8)).solve(), NONE);
        due("odd", solver(2, eq(2, 4, 0, 0, 7)).solve(), NONE);
        due("just one", solver(2, eq(1, 1, 0, 0, 5), eq(1, -1, 0, 0, 1)).solve(), 0);
        due("halves", solver(2, eq(1, 1, 0, 0, 5), eq(1, -1, 0, 0, 2)).solve(), NONE);
        due("0 = 0", solver(2, eq(0, 0, 0, 0, 0)).solve(), 2);
        due("0 = 1", solver(2, eq(0, 0, 0, 0, 1)).solve(), NONE);
    }

    private void fails() {
        at("promise 7");
        due("no equation", solver(4).fails(), NONE);
        due("the first", solver(2, eq(4, 6, 0, 0, 3), eq(0, 0, 0, 0, 1)).fails(), 0);
        due("the second", solver(2, eq(4, 6, 0, 0, 2), eq(2, 3, 0, 0, 2), eq(0, 0, 0, 0, 1)).fails(), 1);
        due("the third", solver(2, eq(4, 6, 0, 0, 2), eq(2, 3, 0, 0, 1), eq(0, 0, 0, 0, 1)).fails(), 2);
        due("all right", solver(2, eq(4, 6, 0, 0, 2), eq(2, 3, 0, 0, 1), eq(0, 0, 0, 0, 0)).fails(), NONE);
        // Each pair alone can be solved; only the three together can't.
        WholeSolver x = solver(2, eq(1, 0, 0, 0, 1), eq(0, 1, 0, 0, 1), eq(1, 1, 0, 0, 3));
        due("the third by the two before", x.fails(), 2);
        due("drop()", x.drop(), 2);
        due("fails()", x.fails(), NONE);
    }

    private void solution() {
        at("promise 8");
        // 3x + 5y = 1: basis (5, -3), so x is from 0 to 4.
        solutionIs(solver(2, eq(3, 5, 0, 0, 1)), 2, -1, NOTHING, NOTHING);
        solutionIs(solver(2, eq(3, 5, 0, 0, -1)), 3, -2);
        solutionIs(solver(2, eq(3, 5, 0, 0, 15)), 0, 3);
        solutionIs(solver(2, eq(3, 5, 0, 0, -15)), 0, -3);
        solutionIs(solver(4), 0, 0, 0, 0, NOTHING);
        // The lead of (0, 1, 0) and of (0, 0, 1) is not at the first unknown, which is as it must be.
        solutionIs(solver(3, eq(-7, 0, 0, 0, 994)), -142, 0, 0, NOTHING);
        solutionIs(solver(2, eq(2, 4, 0, 0, 7)), NOTHING, NOTHING);
        WholeSolver x = solver(2, eq(3, 5, 0, 0, 1));
        for (int j : new int[] {-1, 2, 3, 4, FAR[0], FAR[1], FAR[2], FAR[3]}) {
            due("solution(" + j + ")", x.solution(j), NOTHING);
        }
    }

    private void basis() {
        at("promise 9");
        WholeSolver x = solver(3, eq(6, 4, 9, 0, 1));
        basisRowIs(x, 0, 1, 3, -2, NOTHING);
        basisRowIs(x, 1, 0, 9, -4, NOTHING);
        basisRowIs(x, 2, NOTHING, NOTHING, NOTHING);
        for (int far : new int[] {-1, 3, FAR[0], FAR[1], FAR[2], FAR[3]}) {
            due("basis(" + far + ", 0)", x.basis(far, 0), NOTHING);
            due("basis(0, " + far + ")", x.basis(0, far), NOTHING);
        }
        basisRowIs(solver(2, eq(2, 4, 0, 0, 7)), 0, 2, -1);
        basisRowIs(solver(2, eq(2, 4, 0, 0, 6), eq(1, 2, 0, 0, 1)), 0, 2, -1);
        basisRowIs(solver(2, eq(1, 1, 0, 0, 0), eq(1, 2, 0, 0, 0)), 0, NOTHING, NOTHING);
        // Of all equations told, not just of those up to the first that fails.
        WholeSolver y = solver(2, eq(0, 0, 0, 0, 1), eq(1, -1, 0, 0, 0));
        due("fails()", y.fails(), 0);
        basisRowIs(y, 0, 1, 1);
        due("count(1)", y.count(1), 1);
    }

    private void count() {
        at("promise 10");
        counts(solver(3), 0, 3, 0, 3);
        counts(solver(3, eq(1, 2, 3, 0, 4)), 1, 2, 1, 3);
        counts(solver(3, eq(1, 2, 3, 0, 4), eq(2, 4, 6, 0, 9)), 1, 2, 2, 3);
        counts(solver(1, eq(1, 0, 0, 0, 4), eq(2, 0, 0, 0, 9), eq(3, 0, 0, 0, 9)), 1, 0, 3, 1);
        counts(solver(4, eq(1, 0, 0, 0, 4), eq(0, 1, 0, 0, 9), eq(0, 0, 1, 0, 9)), 3, 1, 3, 4);
        counts(solver(2, eq(0, 0, 0, 0, 0), eq(0, 0, 0, 0, 0)), 0, 2, 2, 2);
        for (int what : new int[] {-1, 4, 5, FAR[0], FAR[1], FAR[2], FAR[3]}) {
            due("count(" + what + ")", solver(3, eq(1, 2, 3, 0, 4)).count(what), NONE);
        }
    }

    private void reach() {
        at("promise 11");
        reachRowIs(solver(2, eq(4, -6, 0, 0, 1)), 0, 2, NOTHING);
        WholeSolver x = solver(2, eq(2, 1, 0, 0, 0), eq(0, 3, 0, 0, 0));
        reachRowIs(x, 0, 1, 3, NOTHING);
        reachRowIs(x, 1, 0, 6, NOTHING);
        reachRowIs(x, 2, NOTHING, NOTHING, NOTHING);
        for (int far : new int[] {-1, 2, 3, FAR[0], FAR[1], FAR[2], FAR[3]}) {
            due("reach(" + far + ", 0)", x.reach(far, 0), NOTHING);
            due("reach(0, " + far + ")", x.reach(0, far), NOTHING);
        }
        // The lead is over 0, what stands behind it need not be.
        reachRowIs(solver(1, eq(-3, 0, 0, 0, 1), eq(9, 0, 0, 0, 1)), 0, 3, -9);
        // A lead that stands two places further right.
        WholeSolver y = solver(3, eq(1, 2, 0, 0, 0), eq(3, 6, 0, 0, 0), eq(0, 0, 7, 0, 0));
        reachRowIs(y, 0, 1, 3, 0);
        reachRowIs(y, 1, 0, 0, 7);
        reachRowIs(y, 2, NOTHING, NOTHING, NOTHING);
        // No equations, or zeros alone: no row.
        due("reach(0, 0)", solver(2).reach(0, 0), NOTHING);
        due("reach(0, 0)", solver(2, eq(0, 0, 0, 0, 0)).reach(0, 0), NOTHING);
        // Not of the sums that are told.
        due("sum", x.sum(0, 5), 1);
        reachRowIs(x, 0, 1, 3);
    }

    private void reached() {
        at("promise 12");
        WholeSolver x = solver(2, eq(2, 1, 0, 0, 0), eq(0, 3, 0, 0, 0));
        due("reached(1, 3, 9)", x.reached(1, 3, 9), 1);
        due("reached(1, 9, -9)", x.reached(1, 9, -9), 1);
        due("reached(1, 6, 0)", x.reached(1, 6, 0), 0);
        due("reached(-1, -3, 0)", x.reached(-1, -3, 0), 1);
        due("reached(0, 3, 0)", x.reached(0, 3, 0), 0);
        due("reached(0, 0, far)", x.reached(0, 0, FAR[0]), 1);
        // The sums of reached are bound by nothing but their type.
        WholeSolver y = solver(1, eq(1, 0, 0, 0, 0), eq(-1, 0, 0, 0, 0));
        due("far", y.reached(FAR[3], -FAR[3], 0), 1);
        due("far", y.reached(FAR[0], FAR[0], 0), 0);
        due("far", solver(1, eq(2, 0, 0, 0, 0)).reached(FAR[0], 1, 1), 1);
        due("far", solver(1, eq(2, 0, 0, 0, 0)).reached(FAR[3], 1, 1), 0);
        due("no equation", solver(4).reached(FAR[0], FAR[3], 7), 1);
        due("0", solver(4, eq(0, 0, 0, 0, 9)).reached(0, 1, 1), 1);
        due("0", solver(4, eq(0, 0, 0, 0, 9)).reached(9, 0, 0), 0);
        WholeSolver z = solver(3, eq(1, 0, 0, 0, 1), eq(0, 1, 0, 0, 2), eq(0, 0, 5, 0, 3));
        due("reached(4, 5, 10)", z.reached(4, 5, 10), 1);
        due("reached(4, 5, 11)", z.reached(4, 5, 11), 0);
        due("fails() all the same", z.fails(), 2);
    }

    private void invariant() {
        at("promise 13");
        WholeSolver x = solver(3, eq(2, 0, 0, 0, 1), eq(0, 6, 0, 0, 1), eq(0, 0, 9, 0, 1));
        due("invariant(1)", x.invariant(1), 1);
        due("invariant(2)", x.invariant(2), 6);
        due("invariant(3)", x.invariant(3), 18);
        for (int k : new int[] {0, -1, 4, FAR[0], FAR[1], FAR[2], FAR[3]}) {
            due("invariant(" + k + ")", x.invariant(k), NOTHING);
        }
        WholeSolver y = solver(3, eq(2, 4, 6, 0, 1), eq(4, 8, -6, 0, 1), eq(6, 0, 0, 0, 1));
        due("invariant(1)", y.invariant(1), 2);
        due("invariant(2)", y.invariant(2), 6);
        due("invariant(3)", y.invariant(3), 36);
        // Dependent equations: 0 from where all determinants are 0.
        WholeSolver z = solver(4, eq(3, 6, 0, 9, 1), eq(-3, -6, 0, -9, 1), eq(6, 9, 0, 9, 1));
        due("invariant(1)", z.invariant(1), 3);
        due("invariant(2)", z.invariant(2), 3);
        due("invariant(3)", z.invariant(3), 0);
        WholeSolver zero = solver(2, eq(0, 0, 0, 0, 1), eq(0, 0, 0, 0, 1), eq(0, 0, 0, 0, 1));
        due("invariant(1)", zero.invariant(1), 0);
        due("invariant(2)", zero.invariant(2), 0);
        due("invariant(3)", zero.invariant(3), NOTHING);
        due("fewer equations", solver(4, eq(5, 5, 5, 5, 5)).invariant(2), NOTHING);
        due("fewer unknowns", solver(1, eq(5, 0, 0, 0, 5), eq(5, 0, 0, 0, 5)).invariant(2), NOTHING);
        due("none", solver(4).invariant(1), NOTHING);
    }

    private void box() {
        at("promise 14");
        WholeSolver x = solver(2, eq(1, 1, 0, 0, 5));
        due("box(0, 5)", x.box(0, 5), 6);
        due("box(0, 4)", x.box(0, 4), 4);
        due("box(-12, 12)", x.box(-12, 12), 20);
        due("box(2, 3)", x.box(2, 3), 2);
        due("box(3, 3)", x.box(3, 3), 0);
        due("box(12, 12)", x.box(12, 12), 0);
        due("box(-12, -12)", x.box(-12, -12), 0);
        due("box(-13, 12)", x.box(-13, 12), NONE);
        due("box(-12, 13)", x.box(-12, 13), NONE);
        due("box(1, 0)", x.box(1, 0), NONE);
        due("box(13, 13)", x.box(13, 13), NONE);
        due("box(-13, -13)", x.box(-13, -13), NONE);
        due("box(far, far)", x.box(FAR[0], FAR[3]), NONE);
        due("box(far, far)", x.box(FAR[3], FAR[0]), NONE);
        due("box(far, far)", x.box(FAR[3], FAR[3]), NONE);
        due("sum", x.sum(0, 24), 1);
        due("box(12, 12)", x.box(12, 12), 1);
        due("sum", x.sum(0, -24), 1);
        due("box(-12, -12)", x.box(-12, -12), 1);
        due("no solution", solver(2, eq(2, 2, 0, 0, 5)).box(-12, 12), 0);
        due("no solution and wrong", solver(2, eq(2, 2, 0, 0, 5)).box(-13, 12), NONE);
        due("all", solver(4).box(-12, 12), 390625);
        due("one", solver(4).box(-12, -12), 1);
        due("all but one bound", solver(4, eq(0, 0, 0, 2, 24)).box(-12, 12), 15625);
        due("that one outside", solver(4, eq(0, 0, 0, 2, 26)).box(-12, 12), 0);
        due("the first outside", solver(4, eq(2, 0, 0, 0, -26)).box(-12, 12), 0);
        due("one point", solver(2, eq(1, 1, 0, 0, 5), eq(1, -1, 0, 0, 1)).box(2, 3), 1);
        due("its outside", solver(2, eq(1, 1, 0, 0, 5), eq(1, -1, 0, 0, 1)).box(3, 3), 0);
    }

    private void modulo() {
        at("promise 15");
        WholeSolver x = solver(2, eq(4, 6, 0, 0, 2));
        due("modulo(1)", x.modulo(1), 1);
        due("modulo(2)", x.modulo(2), 4);
        due("modulo(4)", x.modulo(4), 8);
        due("modulo(5)", x.modulo(5), 5);
        due("modulo(40)", x.modulo(40), 80);
        for (int m : new int[] {0, -1, 41, FAR[0], FAR[1], FAR[2], FAR[3]}) {
            due("modulo(" + m + ")", x.modulo(m), NONE);
        }
        due("sum", x.sum(0, -3), 1);
        due("right but for what 3 divides", x.modulo(3), 3);
        due("right but for what 2 divides", x.modulo(2), 0);
        due("right but for what 7 divides", x.modulo(7), 7);
        due("all", solver(4).modulo(40), 2560000);
        due("0 = 20", solver(4, eq(0, 0, 0, 0, 20)).modulo(40), 0);
        due("0 = 20", solver(4, eq(0, 0, 0, 0, 20)).modulo(20), 160000);
        due("0 = -1000", solver(1, eq(0, 0, 0, 0, -1000)).modulo(40), 40);
        WholeSolver y = solver(1, eq(3, 0, 0, 0, 6), eq(6, 0, 0, 0, 12), eq(9, 0, 0, 0, 18));
        due("three equations of one", y.modulo(9), 3);
        due("sum", y.sum(1, 3), 1);
        due("against each other but for what 9 divides", y.modulo(9), 3);
        due("against each other for 18", y.modulo(18), 0);
    }

    private void spread() {
        at("promise 16");
        due("no equation", solver(1).spread(), 1);
        due("one", solver(2, eq(6, 4, 0, 0, 2)).spread(), 1);
        due("just one", solver(2, eq(1, 1, 0, 0, 5), eq(1, -1, 0, 0, 1)).spread(), 0);
        due("none", solver(2, eq(6, 4, 0, 0, 1)).spread(), NONE);
        due("none, and none free", solver(1, eq(6, 0, 0, 0, 1)).spread(), NONE);
        due("0 = 0", solver(3, eq(0, 0, 0, 0, 0)).spread(), 1);
    }

    private void check() {
        at("promise 17");
        due("no equation", solver(4).check(), 1);
        due("with a solution", solver(3, eq(2, -4, 9, 0, 7), eq(8, 6, -3, 0, -11)).check(), 1);
        due("without", solver(2, eq(6, 4, 0, 0, 1)).check(), 1);
        due("0 = 1", solver(2, eq(0, 0, 0, 0, 1)).check(), 1);
        due("far sums", solver(4, eq(9, 8, -9, 7, 1000), eq(-7, 9, 8, 9, -1000), eq(9, -9, 5, 8, 999)).check(), 1);
    }
}
