/** The boundary cases of promises 14 to 17: boxes, remainders, the spread, the check. */
final class CountingBoundaries extends Boundaries {
    CountingBoundaries(Sentences s) {
        super(s);
    }

    @Override
    void all() {
        oneUnknownAtTheBoxEdges();
        twoUnknownsInEachBox();
        wholeBoxAndLeastBox();
        boxesRefused();
        lessHighRefused();
        remaindersFromOneToForty();
        modulesRefused();
        spreadOfMany();
        spreadOfJustOne();
        spreadOfNone();
        checkTellsOne();
        checkWouldTellZero();
    }

    private void oneUnknownAtTheBoxEdges() {
        s.promise(14, "How many solutions have all unknowns from low to high");
        for (int n = 1; n <= 4; n++) {
            for (int j = 0; j < n; j++) {
                for (int value = -13; value <= 13; value++) {
                    boundUnknown(n, j, value);
                }
            }
        }
    }

    /** All unknowns are free but one, which is in the box at both its edges and outside it one further. */
    private void boundUnknown(int n, int j, int value) {
        WholeSolver x = s.solver(n, eq(j == 0 ? 3 : 0, j == 1 ? 3 : 0, j == 2 ? 3 : 0, j == 3 ? 3 : 0, 3 * value));
        for (int low = -12; low <= 12; low += 3) {
            for (int high = low; high <= 12; high += 2) {
                int others = 1;
                for (int k = 1; k < n; k++) {
                    others *= high - low + 1;
                }
                s.due("unknown " + j + " of " + n + " is " + value + ": box(" + low + ", " + high + ")",
                        x.box(low, high), value >= low && value <= high ? others : 0);
            }
        }
    }

    private void twoUnknownsInEachBox() {
        s.promise(14, "How many solutions have all unknowns from low to high");
        for (int sum = -26; sum <= 26; sum++) {
            WholeSolver plus = s.solver(2, eq(1, 1, 0, 0, sum));
            WholeSolver minus = s.solver(2, eq(1, -2, 0, 0, sum));
            for (int low = -12; low <= 12; low++) {
                for (int high = low; high <= 12; high += 1 + (high - low) / 2) {
                    int many = 0;
                    int twice = 0;
                    for (int b = low; b <= high; b++) {
                        many += sum - b >= low && sum - b <= high ? 1 : 0;
                        twice += sum + 2 * b >= low && sum + 2 * b <= high ? 1 : 0;
                    }
                    s.due("a + b = " + sum + ": box(" + low + ", " + high + ")", plus.box(low, high), many);
                    s.due("a - 2b = " + sum + ": box(" + low + ", " + high + ")", minus.box(low, high), twice);
                }
            }
        }
    }

    private void wholeBoxAndLeastBox() {
        s.promise(14, "How many solutions have all unknowns from low to high");
        int all = 1;
        for (int n = 1; n <= 4; n++) {
            all *= 25;
            s.due(n + " unknowns: box(-12, 12)", s.solver(n).box(-12, 12), all);
            for (int at : new int[] {-12, 0, 12}) {
                s.due(n + " unknowns: box of one", s.solver(n).box(at, at), 1);
                s.due("at its corner", s.solver(n, eq(5, 5, 5, 5, 5 * n * at)).box(at, at), 1);
                s.due("beside it", s.solver(n, eq(5, 5, 5, 5, 5 * n * at + 5)).box(at, at), 0);
            }
            s.due("no solution", s.solver(n, eq(2, 2, 2, 2, 1)).box(-12, 12), 0);
            s.due("0 = 1", s.solver(n, eq(0, 0, 0, 0, 1)).box(-12, 12), 0);
            s.due("far outside", s.solver(n, eq(1, 1, 1, 1, 1000)).box(-12, 12), 0);
        }
        s.due("just one", s.solver(2, eq(1, 0, 0, 0, -12), eq(0, 1, 0, 0, 12)).box(-12, 12), 1);
        s.due("just one, outside", s.solver(2, eq(1, 0, 0, 0, -12), eq(0, 1, 0, 0, 12)).box(-12, 11), 0);
        s.due("just one, outside", s.solver(2, eq(1, 0, 0, 0, -12), eq(0, 1, 0, 0, 12)).box(-11, 12), 0);
    }

    private void boxesRefused() {
        s.promise(14, "NONE when these are not -12 .. 12");
        int[] sides = {LEAST, -1000, -14, -13, -12, 0, 12, 13, 14, 1000, MOST};
        for (int kind = 0; kind < Sentences.KINDS; kind++) {
            for (int low : sides) {
                WholeSolver x = s.kind(kind);
                for (int high : sides) {
                    boolean outside = low < -12 || low > 12 || high < -12 || high > 12;
                    if (outside) {
                        s.due("kind " + kind + ": box(" + low + ", " + high + ")", x.box(low, high), NONE);
                    } else if (low <= high) {
                        s.holds("kind " + kind + ": box(" + low + ", " + high + ") counts", x.box(low, high) >= 0);
                    }
                }
            }
        }
    }

    private void lessHighRefused() {
        s.promise(14, "or high is less.");
        for (int kind = 0; kind < Sentences.KINDS; kind++) {
            for (int low = -12; low <= 12; low++) {
                WholeSolver x = s.kind(kind);
                for (int high = -12; high < low; high++) {
                    s.due("kind " + kind + ": box(" + low + ", " + high + ")", x.box(low, high), NONE);
                }
                int same = x.box(low, low);
                s.holds("kind " + kind + ": box(" + low + ", " + low + ") is 0 or 1", same == 0 || same == 1);
            }
        }
    }

    private void remaindersFromOneToForty() {
        s.promise(15, "How many rows of unknowns from 0 to less than m there are with which each equation is right "
                + "but for what m divides");
        for (int m = 1; m <= 40; m++) {
            int all = 1;
            for (int n = 1; n <= 4; n++) {
                all *= m;
                s.due(n + " unknowns: modulo(" + m + ")", s.solver(n).modulo(m), all);
                s.due("bound by one: modulo(" + m + ")", s.solver(n, eq(1, 1, 1, 1, -1000)).modulo(m), all / m);
                s.due("0 = 1: modulo(" + m + ")", s.solver(n, eq(0, 0, 0, 0, 1)).modulo(m), m == 1 ? 1 : 0);
                s.due("0 = m: modulo(" + m + ")", s.solver(n, eq(0, 0, 0, 0, m)).modulo(m), all);
                s.due("0 = -m: modulo(" + m + ")", s.solver(n, eq(0, 0, 0, 0, -m)).modulo(m), all);
            }
            for (int factor = -9; factor <= 9; factor++) {
                remaindersOfOne(m, factor, 7);
                remaindersOfOne(m, factor, -6);
                remaindersOfOne(m, factor, 1000);
            }
        }
        WholeSolver three = s.solver(3, eq(2, 0, 0, 0, 4), eq(0, 4, 0, 0, -4), eq(0, 0, 5, 0, 45));
        s.due("three: modulo(40)", three.modulo(40), 2 * 4 * 5);
        s.due("three: modulo(1)", three.modulo(1), 1);
    }

    private void remaindersOfOne(int m, int factor, int sum) {
        int want = 0;
        for (int a = 0; a < m; a++) {
            want += (factor * a - sum) % m == 0 ? 1 : 0;
        }
        WholeSolver x = s.solver(1, eq(factor, 0, 0, 0, sum), eq(factor, 0, 0, 0, sum));
        s.due(factor + "a = " + sum + ": modulo(" + m + ")", x.modulo(m), want);
    }

    private void modulesRefused() {
        s.promise(15, "NONE when m is not 1 .. 40.");
        for (int kind = 0; kind < Sentences.KINDS; kind++) {
            WholeSolver x = s.kind(kind);
            for (int m : new int[] {0, 41, -1, -40, 42, 80, LEAST, MOST}) {
                s.due("kind " + kind + ": modulo(" + m + ")", x.modulo(m), NONE);
            }
            s.due("kind " + kind + ": modulo(1)", x.modulo(1), 1);
            s.holds("kind " + kind + ": modulo(40) is 0 or more", x.modulo(40) >= 0);
        }
    }

    private void spreadOfMany() {
        s.promise(16, "The greatest m for which all unknowns of all solutions are the same but for what m divides");
        for (int n = 1; n <= 4; n++) {
            s.due("no equation", s.solver(n).spread(), 1);
            s.due("0 = 0", s.solver(n, eq(0, 0, 0, 0, 0)).spread(), 1);
        }
        // No basis row alone has the divisor 1 at one place: it is that of all unknowns of all rows.
        s.due("by 5 and -3", s.solver(2, eq(3, 5, 0, 0, 1)).spread(), 1);
        s.due("by 9 and 8", s.solver(2, eq(8, -9, 0, 0, 1000)).spread(), 1);
        s.due("by two equations", s.solver(3, eq(6, 4, 0, 0, 2), eq(0, 6, 9, 0, 3)).spread(), 1);
    }

    private void spreadOfJustOne() {
        s.promise(16, "0 if there is just one solution");
        s.due("a = 0", s.solver(1, eq(1, 0, 0, 0, 0)).spread(), 0);
        s.due("9a = 999", s.solver(1, eq(9, 0, 0, 0, 999)).spread(), 0);
        s.due("of two", s.solver(2, eq(1, 1, 0, 0, 5), eq(1, -1, 0, 0, 1)).spread(), 0);
        WholeSolver x = s.solver(3, eq(1, 0, 0, 0, 5), eq(0, 1, 0, 0, 1), eq(0, 0, 1, 0, 4));
        s.due("of three", x.spread(), 0);
        s.due("drop()", x.drop(), 2);
        s.due("of more", x.spread(), 1);
    }

    private void spreadOfNone() {
        s.promise(16, "NONE when there is none.");
        s.due("0 = 1", s.solver(4, eq(0, 0, 0, 0, 1)).spread(), NONE);
        WholeSolver x = s.solver(1, eq(2, 0, 0, 0, 1));
        s.due("none, and nothing free", x.spread(), NONE);
        s.due("sum(0, 2)", x.sum(0, 2), 1);
        s.due("just one", x.spread(), 0);
        WholeSolver last = s.solver(4, eq(1, 1, 1, 1, 1), eq(1, -1, 0, 0, 0), eq(0, 0, 7, 7, 1));
        s.due("none by the last", last.spread(), NONE);
        s.due("drop()", last.drop(), 2);
        s.due("of more", last.spread(), 1);
    }

    private void checkTellsOne() {
        s.promise(17, "Whether the solution solves all equations, basis rows the same with sums 0, "
                + "and reach rows are reached: 1");
        for (int kind = 0; kind < Sentences.KINDS; kind++) {
            WholeSolver x = s.kind(kind);
            s.due("kind " + kind, x.check(), 1);
            for (int e = 0; e < x.count(2); e++) {
                s.due("sum", x.sum(e, 1000), 1);
                s.due("kind " + kind + " with another sum", x.check(), 1);
            }
            x.drop();
            s.due("kind " + kind + " with one less", x.check(), 1);
        }
        s.due("nothing free", s.solver(1, eq(1, 0, 0, 0, 1)).check(), 1);
        s.due("nothing reached but 0", s.solver(4, eq(0, 0, 0, 0, 0)).check(), 1);
    }

    /** No call breaks an object, so the test does, one number inside of each. */
    private void checkWouldTellZero() {
        s.promise(17, "it would tell 0.");
        int[][] told = {eq(2, 0, 0, 3, 7), eq(0, 5, 0, 0, -10)};
        int places = new Inside(s.solver(4, told)).size();
        boolean solutionBroken = false;
        boolean basisBroken = false;
        boolean reachBroken = false;
        for (int place = 0; place < places; place++) {
            WholeSolver x = s.solver(4, told);
            new Inside(x).breakAt(place);
            boolean solution = !solutionSolves(x, told);
            boolean basis = !basisIsFree(x, told);
            // Of these equations are reached any first sum, and a second one that 5 divides.
            boolean reach = x.reach(0, 1) % 5 != 0 || x.reach(1, 1) % 5 != 0;
            if (solution || basis || reach) {
                s.due("check() with the number " + place + " inside broken", x.check(), 0);
            }
            solutionBroken |= solution;
            basisBroken |= basis;
            reachBroken |= reach;
        }
        s.holds("the solution was broken", solutionBroken);
        s.holds("the basis was broken", basisBroken);
        s.holds("the reach was broken", reachBroken);
    }

    private static boolean solutionSolves(WholeSolver x, int[][] told) {
        for (int[] q : told) {
            long sum = 0;
            for (int j = 0; j < 4; j++) {
                sum += q[j] * x.solution(j);
            }
            if (sum != q[4]) {
                return false;
            }
        }
        return true;
    }

    private static boolean basisIsFree(WholeSolver x, int[][] told) {
        for (int[] q : told) {
            for (int i = 0; i < 2; i++) {
                long sum = 0;
                for (int j = 0; j < 4; j++) {
                    sum += q[j] * x.basis(i, j);
                }
                if (sum != 0) {
                    return false;
                }
            }
        }
        return true;
    }
}
