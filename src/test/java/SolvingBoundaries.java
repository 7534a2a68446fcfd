/** The boundary cases of promises 6 to 9: whether there is a solution, which, and what is free. */
final class SolvingBoundaries extends Boundaries {
    SolvingBoundaries(Sentences s) {
        super(s);
    }

    @Override
    void all() {
        rowsFromNoneToFour();
        noSolutionToSolve();
        firstThatFails();
        noneFails();
        eachUnknownOfTheSolution();
        noSolutionToTell();
        noSuchUnknown();
        basisWithoutSolution();
        noSuchBasisNumber();
    }

    private void rowsFromNoneToFour() {
        s.promise(6, "How many rows the basis has, if there is a solution");
        for (int n = 1; n <= 4; n++) {
            WholeSolver x = s.solver(n);
            s.due(n + " unknowns, no equation", x.solve(), n);
            for (int e = 0; e < 3; e++) {
                x.equation(e == 0 ? 1 : 0, e == 1 ? 1 : 0, e == 2 ? 1 : 0, 0, 0);
                s.due(n + " unknowns, " + (e + 1) + " equations", x.solve(), Math.max(0, n - e - 1));
            }
        }
        s.due("just one", s.solver(1, eq(9, 0, 0, 0, -999)).solve(), 0);
        s.due("the same three times", s.solver(2, eq(2, 4, 0, 0, 6), eq(2, 4, 0, 0, 6), eq(1, 2, 0, 0, 3)).solve(), 1);
        s.due("0 = 0", s.solver(4, eq(0, 0, 0, 0, 0)).solve(), 4);
    }

    private void noSolutionToSolve() {
        s.promise(6, "NONE when there is none.");
        s.due("0 = 1", s.solver(4, eq(0, 0, 0, 0, 1)).solve(), NONE);
        s.due("0 = -1000", s.solver(1, eq(0, 0, 0, 0, -1000)).solve(), NONE);
        s.due("9a = 1000", s.solver(1, eq(9, 0, 0, 0, 1000)).solve(), NONE);
        s.due("two sums", s.solver(4, eq(1, 1, 1, 1, 1), eq(1, 1, 1, 1, 2)).solve(), NONE);
        s.due("halves", s.solver(2, eq(1, 1, 0, 0, 0), eq(1, -1, 0, 0, 1)).solve(), NONE);
        WholeSolver x = s.solver(3, eq(1, 0, 0, 0, 1), eq(0, 1, 0, 0, 1), eq(0, 0, 2, 0, 3));
        s.due("by the last alone", x.solve(), NONE);
        s.due("sum(2, 4)", x.sum(2, 4), 1);
        s.due("solve()", x.solve(), 0);
        s.due("sum(2, 5)", x.sum(2, 5), 1);
        s.due("solve()", x.solve(), NONE);
        s.due("drop()", x.drop(), 2);
        s.due("solve()", x.solve(), 1);
    }

    private void firstThatFails() {
        s.promise(7, "The first equation with which (and those before it) there is no solution");
        for (int bad = 0; bad < 8; bad++) {
            WholeSolver x = s.solver(4);
            for (int e = 0; e < 3; e++) {
                int sum = (bad >> e & 1) == 1 ? 1 : 0;
                s.due("equation", x.equation(e == 0 ? 2 : 0, e == 1 ? 2 : 0, e == 2 ? 2 : 0, 0, sum), e);
            }
            s.due("odd sums by the bits of " + bad, x.fails(), bad == 0 ? NONE : Integer.numberOfTrailingZeros(bad));
        }
        // Each alone and each pair can be solved, all three together can't.
        WholeSolver third = s.solver(2, eq(1, 0, 0, 0, 1), eq(0, 1, 0, 0, 1), eq(1, 1, 0, 0, 1));
        s.due("the third by both before", third.fails(), 2);
        WholeSolver second = s.solver(2, eq(1, 1, 0, 0, 0), eq(1, -1, 0, 0, 1), eq(0, 0, 0, 0, 9));
        s.due("the second by the first", second.fails(), 1);
        s.due("the first, that is 0", s.solver(2, eq(0, 0, 0, 0, -1), eq(1, 0, 0, 0, 1)).fails(), 0);
        WholeSolver x = s.solver(1, eq(2, 0, 0, 0, 1), eq(1, 0, 0, 0, 0));
        s.due("fails()", x.fails(), 0);
        s.due("sum(0, 2)", x.sum(0, 2), 1);
        s.due("fails()", x.fails(), 1);
    }

    private void noneFails() {
        s.promise(7, "NONE when there is one.");
        for (int n = 1; n <= 4; n++) {
            s.due("no equation", s.solver(n).fails(), NONE);
            s.due("0 = 0", s.solver(n, eq(0, 0, 0, 0, 0)).fails(), NONE);
            WholeSolver same = s.solver(n, eq(3, 3, 3, 3, 9), eq(3, 3, 3, 3, 9), eq(-1, -1, -1, -1, -3));
            s.due("one, three times", same.fails(), NONE);
        }
        WholeSolver far = s.solver(3, eq(1, 0, 0, 0, 1000), eq(0, 8, 0, 0, -1000), eq(0, 0, -5, 0, 1000));
        s.due("the farthest sums", far.fails(), NONE);
        WholeSolver x = s.solver(1, eq(2, 0, 0, 0, 1));
        s.due("sum(0, 2)", x.sum(0, 2), 1);
        s.due("fails()", x.fails(), NONE);
    }

    private void eachUnknownOfTheSolution() {
        s.promise(8, "Unknown j of THE SOLUTION");
        s.solutionIs(s.solver(1, eq(1, 0, 0, 0, -1000)), -1000, NOTHING);
        s.solutionIs(s.solver(2, eq(3, 5, 0, 0, 1)), 2, -1, NOTHING);
        WholeSolver three = s.solver(3, eq(1, 0, 0, 0, 1000), eq(0, -1, 0, 0, 1000), eq(0, 0, 9, 0, -999));
        s.solutionIs(three, 1000, -1000, -111, NOTHING);
        s.solutionIs(s.solver(4, eq(0, 0, 0, -8, 1000)), 0, 0, 0, -125, NOTHING);
        s.solutionIs(s.solver(4, eq(1, 1, 1, 1, -1000)), 0, 0, 0, -1000, NOTHING);
    }

    private void noSolutionToTell() {
        s.promise(8, "NOTHING when there is none");
        for (int n = 1; n <= 4; n++) {
            WholeSolver x = s.solver(n, eq(1, 0, 0, 0, 1), eq(0, 0, 0, 0, 1));
            for (int j = 0; j < n; j++) {
                s.due("0 = 1: solution(" + j + ")", x.solution(j), NOTHING);
            }
            s.due("sum(1, 0)", x.sum(1, 0), 1);
            s.due("solution(0)", x.solution(0), 1);
        }
        s.due("2a = 1", s.solver(1, eq(2, 0, 0, 0, 1)).solution(0), NOTHING);
    }

    private void noSuchUnknown() {
        s.promise(8, "or no such unknown.");
        for (int n = 1; n <= 4; n++) {
            for (int equations = 0; equations <= 3; equations++) {
                WholeSolver x = s.solver(n);
                for (int e = 0; e < equations; e++) {
                    x.equation(1, 1, 1, 1, 3);
                }
                for (int j : new int[] {-1, n, n + 1, 4, 5, -7, LEAST, MOST}) {
                    s.due(n + " unknowns, solution(" + j + ")", x.solution(j), NOTHING);
                }
                s.due("the last that there is", x.solution(n - 1), equations == 0 ? 0 : 3);
            }
        }
    }

    private void basisWithoutSolution() {
        s.promise(9, "Number j of row i of the basis (that is there without a solution, too)");
        WholeSolver x = s.solver(4, eq(0, 0, 0, 0, 1), eq(2, 4, 0, 0, 3));
        s.due("solve()", x.solve(), NONE);
        s.basisRowIs(x, 0, 2, -1, 0, 0, NOTHING);
        s.basisRowIs(x, 1, 0, 0, 1, 0, NOTHING);
        s.basisRowIs(x, 2, 0, 0, 0, 1, NOTHING);
        s.due("sum(0, 0)", x.sum(0, 0), 1);
        s.due("sum(1, 2)", x.sum(1, 2), 1);
        s.due("solve()", x.solve(), 3);
        s.basisRowIs(x, 0, 2, -1, 0, 0, NOTHING);
        WholeSolver last = s.solver(4);
        s.due("the last of the most", last.basis(3, 3), 1);
        s.due("before it", last.basis(3, 2), 0);
    }

    private void noSuchBasisNumber() {
        s.promise(9, "NOTHING when there is none such.");
        for (int kind = 0; kind < Sentences.KINDS; kind++) {
            WholeSolver x = s.kind(kind);
            int rows = x.count(1);
            int n = x.count(3);
            for (int j = -1; j <= 4; j++) {
                for (int i : new int[] {-1, rows, rows + 1, 4, LEAST, MOST}) {
                    s.due("kind " + kind + ": basis(" + i + ", " + j + ")", x.basis(i, j), NOTHING);
                }
            }
            for (int i = -1; i <= 4; i++) {
                for (int j : new int[] {-1, n, n + 1, 4, LEAST, MOST}) {
                    s.due("kind " + kind + ": basis(" + i + ", " + j + ")", x.basis(i, j), NOTHING);
                }
            }
        }
        WholeSolver none = s.solver(4, eq(1, 0, 0, 0, 0), eq(0, 1, 0, 0, 0), eq(0, 0, 1, 0, 0));
        s.basisRowIs(none, 0, 0, 0, 0, 1, NOTHING);
        s.basisRowIs(none, 1, NOTHING, NOTHING, NOTHING, NOTHING);
        s.basisRowIs(s.solver(1, eq(3, 0, 0, 0, 3)), 0, NOTHING, NOTHING);
    }
}
