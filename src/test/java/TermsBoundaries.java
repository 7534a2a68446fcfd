import java.util.Arrays;

/** The boundary cases that the document names before its promises: the 512 calls, and the terms. */
final class TermsBoundaries extends Boundaries {
    private static final int CALLS = 512;

    TermsBoundaries(Sentences s) {
        super(s);
    }

    @Override
    void all() {
        the512thCall();
        oneToFourUnknowns();
        upToThreeEquations();
        factorsFromNineBelowToNineAbove();
        sumsFromThousandBelowToThousandAbove();
        latticeOfNoRowsAndOfAll();
        noFormRowIsAllZero();
        leadsAreOverZero();
        leadsStandFurtherRight();
        numbersAboveALead();
        freeByAllEquationsTold();
        theSolutionAtTheLeads();
        reachedWithAnyUnknowns();
        invariantsFromOneToTheLesser();
        invariantsByDeterminants();
        firstInvariantIsByOne();
        invariantsOfZeroDeterminants();
        none();
        nothing();
    }

    private void the512thCall() {
        s.whatItIs("An object is used for at most 512 calls after it has been made");
        WholeSolver fresh = s.kind(7);
        for (Ask ask : Ask.ALL) {
            s.due(ask.name() + " as the 512th call", ask.of(afterCalls(CALLS - 1)), ask.of(fresh));
        }
        s.due("drop() as the 512th call", afterCalls(CALLS - 1).drop(), 2);
        s.due("sum(2, -1000) as the 512th call", afterCalls(CALLS - 1).sum(2, -1000), 1);
        s.due("unknowns(4) as the 512th call", afterCalls(CALLS - 1).unknowns(4), 1);
        WholeSolver x = afterCalls(CALLS - 2);
        s.due("drop() as the 511th call", x.drop(), 2);
        s.due("equation(1, 1, 1, 1, 1) as the 512th call", x.equation(1, 1, 1, 1, 1), 2);
    }

    /** The same equations as kind 7, after so many calls in all. */
    private WholeSolver afterCalls(int calls) {
        WholeSolver x = s.kind(7);
        int told = 4;
        for (int call = told; call < calls - 1; call++) {
            if (call % 2 == 0) {
                s.due("sum(1, " + call + ")", x.sum(1, call), 1);
            } else {
                s.due("a fourth equation", x.equation(1, 1, 1, 1, call), NONE);
            }
        }
        s.due("sum(1, -2)", x.sum(1, -2), 1);
        return x;
    }

    private void oneToFourUnknowns() {
        s.terms("There are 1 to 4 UNKNOWNS, numbered from 0, whole numbers");
        for (int n = 1; n <= 4; n++) {
            WholeSolver x = s.solver(n);
            s.due("count(3)", x.count(3), n);
            for (int j = -1; j <= 4; j++) {
                s.due(n + " unknowns, solution(" + j + ")", x.solution(j), j >= 0 && j < n ? 0 : NOTHING);
            }
        }
        s.due("2a = 1 in whole numbers", s.solver(1, eq(2, 0, 0, 0, 1)).solve(), NONE);
        s.solutionIs(s.solver(1, eq(2, 0, 0, 0, -2)), -1);
    }

    private void upToThreeEquations() {
        s.terms("and up to 3 EQUATIONS, numbered from 0");
        for (int n = 1; n <= 4; n++) {
            WholeSolver x = s.solver(n);
            for (int e = 0; e < 3; e++) {
                s.due("no equation yet: sum(" + e + ", 0)", x.sum(e, 0), 0);
                s.due("equation", x.equation(1, 0, 0, 0, 0), e);
                s.due("sum(" + e + ", 0)", x.sum(e, 0), 1);
            }
            s.due("a fourth", x.equation(1, 0, 0, 0, 0), NONE);
            s.due("count(2)", x.count(2), 3);
        }
    }

    private void factorsFromNineBelowToNineAbove() {
        s.terms("the sum of each unknown times its FACTOR (-9 to 9)");
        for (int j = 0; j < 4; j++) {
            for (int factor = -11; factor <= 11; factor++) {
                int[] f = new int[4];
                f[j] = factor;
                WholeSolver x = s.solver(4);
                boolean inside = factor >= -9 && factor <= 9;
                s.due("factor " + j + " = " + factor,
                        x.equation(f[0], f[1], f[2], f[3], 7 * factor), inside ? 0 : NONE);
                s.due("solution(" + j + ")", x.solution(j), inside && factor != 0 ? 7 : 0);
            }
        }
    }

    private void sumsFromThousandBelowToThousandAbove() {
        s.terms("is the SUM (-1000 to 1000).");
        for (int sum = -1002; sum <= 1002; sum++) {
            boolean inside = sum >= -1000 && sum <= 1000;
            WholeSolver x = s.solver(1);
            s.due("equation with the sum " + sum, x.equation(-1, 0, 0, 0, sum), inside ? 0 : NONE);
            s.due("count(2)", x.count(2), inside ? 1 : 0);
            s.due("solution(0)", x.solution(0), inside ? -sum : 0);
            WholeSolver y = s.solver(1, eq(1, 0, 0, 0, 5));
            s.due("sum(0, " + sum + ")", y.sum(0, sum), inside ? 1 : 0);
            s.due("solution(0)", y.solution(0), inside ? sum : 5);
        }
    }

    private void latticeOfNoRowsAndOfAll() {
        s.terms("A LATTICE is all that comes of some rows of numbers by adding and taking away.");
        WholeSolver none = s.solver(1, eq(0, 0, 0, 0, 0));
        s.due("of 0: reached(0, 0, 0)", none.reached(0, 0, 0), 1);
        s.due("of 0: reached(1, 0, 0)", none.reached(1, 0, 0), 0);
        s.due("of 0: reached(-1, 0, 0)", none.reached(-1, 0, 0), 0);
        WholeSolver some = s.solver(2, eq(6, -9, 0, 0, 0));
        for (int sum = -30; sum <= 30; sum++) {
            s.due("of 6 and -9: reached(" + sum + ", 0, 0)", some.reached(sum, 0, 0), sum % 3 == 0 ? 1 : 0);
        }
    }

    private void noFormRowIsAllZero() {
        s.terms("Its FORM is the one set of rows from which it comes so that: none is all 0");
        WholeSolver zeros = s.solver(4, eq(0, 0, 0, 0, 0), eq(0, 0, 0, 0, 0), eq(0, 0, 0, 0, 0));
        s.counts(zeros, 0, 4, 3, 4);
        s.reachRowIs(zeros, 0, NOTHING, NOTHING, NOTHING);
        WholeSolver same = s.solver(4, eq(1, 2, 3, 4, 0), eq(2, 4, 6, 8, 0), eq(-1, -2, -3, -4, 0));
        s.counts(same, 1, 3, 3, 4);
        s.reachRowIs(same, 0, 1, 2, -1);
        s.reachRowIs(same, 1, NOTHING, NOTHING, NOTHING);
        WholeSolver one = s.solver(1, eq(4, 0, 0, 0, 8));
        s.counts(one, 1, 0, 1, 1);
        s.basisRowIs(one, 0, NOTHING);
    }

    private void leadsAreOverZero() {
        s.terms("the first number of each that is not 0, its LEAD, is over 0");
        for (int factor = -9; factor <= 9; factor++) {
            int lead = Math.abs(factor);
            WholeSolver x = s.solver(1, eq(factor, 0, 0, 0, 0), eq(5, 0, 0, 0, 0));
            s.reachRowIs(x, 0, lead, factor < 0 ? -5 : 5);
            WholeSolver y = s.solver(2, eq(factor, 1, 0, 0, 0));
            s.basisRowIs(y, 0, 1, -factor);
        }
        s.reachRowIs(s.solver(1, eq(0, 0, 0, 0, 0), eq(-7, 0, 0, 0, 0)), 0, 0, 7);
        s.basisRowIs(s.solver(3, eq(1, 0, 0, 0, 0), eq(0, 2, 3, 0, 0)), 0, 0, 3, -2);
    }

    private void leadsStandFurtherRight() {
        s.terms("and stands further right than that of the row before");
        WholeSolver x = s.solver(3, eq(0, 2, 0, 0, 0), eq(5, 1, 0, 0, 0), eq(0, 0, 3, 0, 0));
        s.reachRowIs(x, 0, 2, 1, 0);
        s.reachRowIs(x, 1, 0, 5, 0);
        s.reachRowIs(x, 2, 0, 0, 3);
        // A place without a lead is passed over, in the reach and in the basis.
        WholeSolver y = s.solver(4, eq(0, 0, 0, 4, 0), eq(0, 0, 0, 8, 0), eq(0, 6, 0, 0, 0));
        s.reachRowIs(y, 0, 4, 8, 0);
        s.reachRowIs(y, 1, 0, 0, 6);
        s.basisRowIs(y, 0, 1, 0, 0, 0);
        s.basisRowIs(y, 1, 0, 0, 1, 0);
        s.counts(y, 2, 2, 3, 4);
    }

    private void numbersAboveALead() {
        s.terms("above a lead all numbers are from 0 to less than it.");
        for (int lead = 1; lead <= 9; lead++) {
            for (int above = -9; above <= 9; above++) {
                int rest = Math.floorMod(above, lead);
                WholeSolver two = s.solver(2, eq(1, 0, 0, 0, 0), eq(above, lead, 0, 0, 0));
                s.reachRowIs(two, 0, 1, rest);
                s.reachRowIs(two, 1, 0, lead);
                WholeSolver three = s.solver(3, eq(1, 0, 0, 0, 0), eq(0, -1, 0, 0, 0), eq(above, -above, -lead, 0, 0));
                s.reachRowIs(three, 0, 1, 0, rest);
                s.reachRowIs(three, 1, 0, 1, rest);
                s.reachRowIs(three, 2, 0, 0, lead);
                WholeSolver free = s.solver(3, eq(-above, 1, lead, 0, 0));
                s.basisRowIs(free, 0, 1, rest, (above - rest) / lead);
                s.basisRowIs(free, 1, 0, lead, -1);
            }
        }
    }

    private void freeByAllEquationsTold() {
        s.terms("FREE are all rows of unknowns with which each equation has the sum 0 (those of all equations told); "
                + "their form is the BASIS.");
        for (int n = 1; n <= 4; n++) {
            WholeSolver x = s.solver(n);
            for (int i = 0; i < n; i++) {
                for (int j = 0; j < n; j++) {
                    s.due("no equation: basis(" + i + ", " + j + ")", x.basis(i, j), i == j ? 1 : 0);
                }
            }
        }
        WholeSolver y = s.solver(3, eq(0, 0, 0, 0, 1), eq(2, -2, 0, 0, 1));
        s.basisRowIs(y, 0, 1, 1, 0);
        s.basisRowIs(y, 1, 0, 0, 1);
        s.due("one more", y.equation(0, 3, -3, 0, 1), 2);
        s.basisRowIs(y, 0, 1, 1, 1);
        s.basisRowIs(y, 1, NOTHING, NOTHING, NOTHING);
        s.due("drop()", y.drop(), 2);
        s.basisRowIs(y, 1, 0, 0, 1);
    }

    private void theSolutionAtTheLeads() {
        s.terms("THE SOLUTION is that one which at each place of a basis row's lead "
                + "has from 0 to less than that lead.");
        for (int lead = 1; lead <= 9; lead++) {
            for (int sum = -1000; sum <= 1000; sum += sum < -20 || sum >= 20 ? 7 : 1) {
                int rest = Math.floorMod(sum, lead);
                s.solutionIs(s.solver(3, eq(5, 1, lead, 0, sum)), 0, rest, (sum - rest) / lead);
                s.solutionIs(s.solver(2, eq(-1, lead, 0, 0, sum)), Math.floorMod(-sum, lead),
                        Math.floorDiv(sum + lead - 1, lead));
            }
        }
        s.solutionIs(s.solver(4, eq(0, 0, 0, 0, 0)), 0, 0, 0, 0);
    }

    private void reachedWithAnyUnknowns() {
        s.terms("REACHED are all rows of sums, one for each equation, that there are with any unknowns; "
                + "their form is the REACH.");
        s.due("no equation: count(0)", s.solver(4).count(0), 0);
        WholeSolver one = s.solver(4, eq(6, 4, -8, 0, 1000));
        s.reachRowIs(one, 0, 2, NOTHING);
        s.due("far unknowns", one.reached(MOST - 1, 0, 0), 1);
        s.due("far unknowns", one.reached(LEAST, 0, 0), 1);
        s.due("far, but odd", one.reached(MOST, 0, 0), 0);
        WholeSolver three = s.solver(3, eq(9, 9, 9, 0, 1), eq(9, -9, 9, 0, 1), eq(9, 9, -9, 0, 1));
        s.reachRowIs(three, 0, 9, 9, 9);
        s.reachRowIs(three, 1, 0, 18, 0);
        s.reachRowIs(three, 2, 0, 0, 18);
    }

    private void invariantsFromOneToTheLesser() {
        s.terms("INVARIANT k, from 1 on up to the lesser of equations and unknowns");
        int[][] ones = {eq(1, 0, 0, 0, 0), eq(0, 1, 0, 0, 0), eq(0, 0, 1, 0, 0)};
        for (int n = 1; n <= 4; n++) {
            for (int equations = 0; equations <= 3; equations++) {
                WholeSolver x = s.solver(n, Arrays.copyOf(ones, equations));
                for (int k = -1; k <= 5; k++) {
                    boolean there = k >= 1 && k <= Math.min(n, equations);
                    s.due(n + " unknowns, " + equations + " equations, invariant(" + k + ")",
                            x.invariant(k), there ? 1 : NOTHING);
                }
            }
        }
    }

    private void invariantsByDeterminants() {
        s.terms("the greatest common divisor of all determinants of k equations and k unknowns");
        WholeSolver greatest = s.solver(3, eq(9, 9, 9, 0, 0), eq(9, -9, 9, 0, 0), eq(9, 9, -9, 0, 0));
        s.due("invariant(1)", greatest.invariant(1), 9);
        s.due("invariant(2)", greatest.invariant(2), 18);
        s.due("invariant(3)", greatest.invariant(3), 18);
        // One determinant of many is 1, and it takes the last equations and the last unknowns.
        WholeSolver last = s.solver(4, eq(2, 2, 2, 2, 0), eq(4, 4, 1, 0, 0), eq(4, 8, 0, 1, 0));
        s.due("invariant(1)", last.invariant(1), 1);
        s.due("invariant(2)", last.invariant(2), 1);
        s.due("invariant(3)", last.invariant(3), 2);
    }

    private void firstInvariantIsByOne() {
        s.terms("by that of k - 1 (1 for 0)");
        for (int factor = -9; factor <= 9; factor++) {
            WholeSolver x = s.solver(2, eq(factor, 0, 0, 0, 0), eq(0, factor, 0, 0, 0));
            s.due("invariant(1)", x.invariant(1), Math.abs(factor));
            s.due("invariant(2)", x.invariant(2), Math.abs(factor));
        }
        WholeSolver y = s.solver(2, eq(2, 0, 0, 0, 0), eq(0, 8, 0, 0, 0));
        s.due("invariant(1)", y.invariant(1), 2);
        s.due("16 by 2", y.invariant(2), 8);
    }

    private void invariantsOfZeroDeterminants() {
        s.terms("0 if all these are 0.");
        WholeSolver zeros = s.solver(3, eq(0, 0, 0, 0, 5), eq(0, 0, 0, 0, 5), eq(0, 0, 0, 0, 5));
        WholeSolver ones = s.solver(3, eq(3, 6, 9, 0, 5), eq(-3, -6, -9, 0, 5), eq(2, 4, 6, 0, 5));
        for (int k = 1; k <= 3; k++) {
            s.due("zeros: invariant(" + k + ")", zeros.invariant(k), 0);
            s.due("one row: invariant(" + k + ")", ones.invariant(k), k == 1 ? 1 : 0);
        }
        WholeSolver twos = s.solver(4, eq(2, 0, 4, 0, 5), eq(0, 6, 0, 0, 5), eq(2, 6, 4, 0, 5));
        s.due("two rows: invariant(2)", twos.invariant(2), 6);
        s.due("two rows: invariant(3)", twos.invariant(3), 0);
    }

    private void none() {
        s.terms("The constants: `NONE = -1`: There is none, or nothing is done.");
        s.due("NONE", WholeSolver.NONE, -1);
        s.due("none to drop", new WholeSolver().drop(), WholeSolver.NONE);
    }

    private void nothing() {
        s.terms("`NOTHING = -1000000000000000L`: No such number.");
        s.due("NOTHING", WholeSolver.NOTHING, -1000000000000000L);
        s.due("no such unknown", new WholeSolver().solution(1), WholeSolver.NOTHING);
    }
}
