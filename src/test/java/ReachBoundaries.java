/** The boundary cases of promises 10 to 13: counts, the reach, what is reached, invariants. */
final class ReachBoundaries extends Boundaries {
    ReachBoundaries(Sentences s) {
        super(s);
    }

    @Override
    void all() {
        leastAndMostCounts();
        otherCounts();
        eachNumberOfTheReach();
        noSuchReachNumber();
        sumsThatTheEquationsCouldHave();
        sumsNotLookedAt();
        reachedTellsOneOrZero();
        leastAndMostInvariant();
        noSuchInvariant();
    }

    private void leastAndMostCounts() {
        s.promise(10, "How many rows the reach has (what 0), the basis (1), "
                + "how many equations (2) and unknowns (3) there are");
        s.counts(new WholeSolver(), 0, 1, 0, 1);
        s.counts(s.solver(4), 0, 4, 0, 4);
        s.counts(s.solver(1, eq(9, 0, 0, 0, 1)), 1, 0, 1, 1);
        s.counts(s.solver(4, eq(1, 0, 0, 0, 1), eq(0, 1, 0, 0, 1), eq(0, 0, 1, 0, 1)), 3, 1, 3, 4);
        s.counts(s.solver(3, eq(1, 0, 0, 0, 1), eq(0, 1, 0, 0, 1), eq(0, 0, 1, 0, 1)), 3, 0, 3, 3);
        s.counts(s.solver(1, eq(1, 0, 0, 0, 1), eq(2, 0, 0, 0, 1), eq(3, 0, 0, 0, 1)), 1, 0, 3, 1);
        s.counts(s.solver(4, eq(0, 0, 0, 0, 1), eq(0, 0, 0, 0, 1), eq(0, 0, 0, 0, 1)), 0, 4, 3, 4);
    }

    private void otherCounts() {
        s.promise(10, "NONE for others.");
        for (int kind = 0; kind < Sentences.KINDS; kind++) {
            for (int what : new int[] {-1, 4, -2, 5, 256, LEAST, MOST}) {
                s.due("kind " + kind + ": count(" + what + ")", s.kind(kind).count(what), NONE);
            }
        }
    }

    private void eachNumberOfTheReach() {
        s.promise(11, "Number j of row i of the reach");
        s.reachRowIs(s.solver(1, eq(-9, 0, 0, 0, 1)), 0, 9, NOTHING);
        WholeSolver x = s.solver(4, eq(1, 0, 0, 0, 1), eq(5, 7, 0, 0, 1), eq(-1, 8, 9, 0, 1));
        s.reachRowIs(x, 0, 1, 5, 8, NOTHING);
        s.reachRowIs(x, 1, 0, 7, 8, NOTHING);
        s.reachRowIs(x, 2, 0, 0, 9, NOTHING);
        // It asks nothing of the sums, nor of a solution.
        s.due("fails()", x.fails(), 1);
        s.due("sum(1, -1000)", x.sum(1, -1000), 1);
        s.reachRowIs(x, 1, 0, 7, 8, NOTHING);
    }

    private void noSuchReachNumber() {
        s.promise(11, "NOTHING when there is none such.");
        for (int kind = 0; kind < Sentences.KINDS; kind++) {
            WholeSolver x = s.kind(kind);
            int rows = x.count(0);
            int equations = x.count(2);
            for (int j = -1; j <= 3; j++) {
                for (int i : new int[] {-1, rows, rows + 1, 4, LEAST, MOST}) {
                    s.due("kind " + kind + ": reach(" + i + ", " + j + ")", x.reach(i, j), NOTHING);
                }
            }
            for (int i = -1; i <= 3; i++) {
                for (int j : new int[] {-1, equations, equations + 1, 6, 7, LEAST, MOST}) {
                    s.due("kind " + kind + ": reach(" + i + ", " + j + ")", x.reach(i, j), NOTHING);
                }
            }
        }
        s.due("no equation", s.solver(4).reach(0, 0), NOTHING);
        s.due("zeros alone", s.solver(4, eq(0, 0, 0, 0, 0)).reach(0, 0), NOTHING);
    }

    private void sumsThatTheEquationsCouldHave() {
        s.promise(12, "Whether the equations could have these sums");
        for (int lead = 1; lead <= 9; lead++) {
            WholeSolver x = s.solver(2, eq(1, 0, 0, 0, 7), eq(2, -lead, 0, 0, 7));
            for (int second = -lead - 1; second <= lead + 1; second++) {
                s.due("lead " + lead + ": reached(3, " + second + ", 0)", x.reached(3, second, 0),
                        Math.floorMod(second - 6, lead) == 0 ? 1 : 0);
            }
        }
        WholeSolver three = s.solver(4, eq(1, 0, 0, 0, 7), eq(0, 1, 0, 0, 7), eq(0, 0, 5, 0, 7));
        s.due("the third is reached", three.reached(LEAST, MOST, -1000), 1);
        s.due("the third is not", three.reached(LEAST, MOST, -1001), 0);
        s.due("the third, far", three.reached(0, 0, MOST - 2), 1);
        s.due("the third, far", three.reached(0, 0, MOST), 0);
        s.due("no sum is told anew", three.fails(), 2);
        WholeSolver against = s.solver(1, eq(1, 0, 0, 0, 7), eq(-1, 0, 0, 0, 7), eq(1, 0, 0, 0, 7));
        s.due("far", against.reached(MOST, -MOST, MOST), 1);
        s.due("far, wrapped round", against.reached(LEAST, LEAST, LEAST), 0);
        s.due("far, one off", against.reached(MOST, -MOST, MOST - 1), 0);
    }

    private void sumsNotLookedAt() {
        s.promise(12, "(those of equations that there are not are not looked at)");
        int[] any = {0, 1, -1, 1001, LEAST, MOST};
        for (int second : any) {
            for (int third : any) {
                s.due("no equation", s.solver(4).reached(third, second, third), 1);
                WholeSolver one = s.solver(2, eq(4, 6, 0, 0, 1));
                s.due("one", one.reached(-8, second, third), 1);
                s.due("one", one.reached(-7, second, third), 0);
                WholeSolver two = s.solver(2, eq(4, 6, 0, 0, 1), eq(0, 0, 0, 0, 1));
                s.due("two", two.reached(2, 0, third), 1);
                s.due("two", two.reached(2, 1, third), 0);
                s.due("drop()", two.drop(), 1);
                s.due("the second is no more", two.reached(2, second, third), 1);
            }
        }
    }

    private void reachedTellsOneOrZero() {
        s.promise(12, ": 1, 0.");
        for (int kind = 0; kind < Sentences.KINDS; kind++) {
            WholeSolver x = s.kind(kind);
            s.due("kind " + kind + ": sums of 0", x.reached(0, 0, 0), 1);
            for (int e = 0; e < x.count(2); e++) {
                s.due("sum", x.sum(e, e - 1), 1);
            }
            s.due("kind " + kind + ": as solve tells", x.reached(-1, 0, 1), x.solve() == NONE ? 0 : 1);
        }
    }

    private void leastAndMostInvariant() {
        s.promise(13, "Invariant k");
        WholeSolver x = s.solver(3, eq(2, 0, 0, 0, 1), eq(0, 6, 0, 0, 1), eq(0, 0, 9, 0, 1));
        s.due("the least", x.invariant(1), 1);
        s.due("the second", x.invariant(2), 6);
        s.due("the most", x.invariant(3), 18);
        s.due("of one", s.solver(1, eq(-9, 0, 0, 0, 1)).invariant(1), 9);
        s.due("of 0", s.solver(1, eq(0, 0, 0, 0, 1)).invariant(1), 0);
        WholeSolver four = s.solver(4, eq(0, 0, 0, 9, 1), eq(0, 0, 9, 0, 1), eq(0, 9, 0, 0, 1));
        s.due("by the last unknowns", four.invariant(3), 9);
    }

    private void noSuchInvariant() {
        s.promise(13, "NOTHING when there is none such.");
        for (int kind = 0; kind < Sentences.KINDS; kind++) {
            WholeSolver x = s.kind(kind);
            int lesser = Math.min(x.count(2), x.count(3));
            for (int k : new int[] {0, -1, lesser + 1, 4, 5, 32, LEAST, MOST}) {
                s.due("kind " + kind + ": invariant(" + k + ")", x.invariant(k), NOTHING);
            }
            s.holds("invariant(" + lesser + ")", lesser == 0 || x.invariant(lesser) >= 0);
        }
        WholeSolver more = s.solver(2, eq(1, 0, 0, 0, 1), eq(0, 1, 0, 0, 1), eq(1, 1, 0, 0, 1));
        s.due("as many equations, but no unknown", more.invariant(3), NOTHING);
        s.due("drop()", more.drop(), 2);
        s.due("drop()", more.drop(), 1);
        s.due("no equation any more", more.invariant(2), NOTHING);
    }
}
