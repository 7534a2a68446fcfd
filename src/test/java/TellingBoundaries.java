import java.util.Arrays;

/** The boundary cases of promises 1 to 5: what an object is told, and what of it is refused. */
final class TellingBoundaries extends Boundaries {
    TellingBoundaries(Sentences s) {
        super(s);
    }

    @Override
    void all() {
        newObject();
        unknownsTold();
        unknownsRefused();
        equationNumbers();
        factorsNotLookedAt();
        equationNumberTold();
        factorsRefused();
        sumsOfEquationsRefused();
        fourthEquationRefused();
        sumTold();
        sumsOfNoEquationRefused();
        sumsRefused();
        dropTold();
        dropRefused();
    }

    private void newObject() {
        s.promise(1, "One unknown, no equations.");
        WholeSolver x = new WholeSolver();
        s.counts(x, 0, 1, 0, 1);
        s.solutionIs(x, 0, NOTHING);
        s.basisRowIs(x, 0, 1, NOTHING);
        s.basisRowIs(x, 1, NOTHING);
        s.reachRowIs(x, 0, NOTHING);
        s.due("solve()", x.solve(), 1);
        s.due("fails()", x.fails(), NONE);
        s.due("box(-12, 12)", x.box(-12, 12), 25);
        s.due("modulo(40)", x.modulo(40), 40);
        s.due("only the first factor counts", x.equation(9, 10, 10, 10, 18), 0);
        s.solutionIs(x, 2, NOTHING);
        s.counts(new WholeSolver(), 0, 1, 0, 1);
    }

    private void unknownsTold() {
        s.promise(2, "So many unknowns, no equations any more: 1");
        for (int n = 1; n <= 4; n++) {
            for (int kind = 0; kind < Sentences.KINDS; kind++) {
                WholeSolver x = s.kind(kind);
                WholeSolver fresh = s.solver(n);
                s.due("unknowns(" + n + ")", x.unknowns(n), 1);
                for (Ask ask : Ask.ALL) {
                    s.due("then " + ask.name(), ask.of(x), ask.of(fresh));
                }
                s.counts(x, 0, n, 0, n);
                s.due("an equation again", x.equation(1, 1, 1, 1, 3), 0);
                s.due("a second again", x.equation(1, 1, 1, 1, 3), 1);
                s.due("a third again", x.equation(1, 1, 1, 1, 3), 2);
            }
        }
    }

    private void unknownsRefused() {
        s.promise(2, "0, and nothing is done, when they are not 1 .. 4.");
        for (int n : new int[] {0, 5, -1, -4, 6, 256 + 1, LEAST, LEAST + 1, MOST}) {
            s.doesNothing("unknowns(" + n + ")", x -> x.unknowns(n), 0);
        }
    }

    private void equationNumbers() {
        s.promise(3, "One more equation");
        WholeSolver x = s.solver(4);
        s.due("the first", x.equation(1, 0, 0, 0, 10), 0);
        s.counts(x, 1, 3, 1, 4);
        s.solutionIs(x, 10, 0, 0, 0);
        s.due("the second", x.equation(0, 1, 0, 0, 20), 1);
        s.counts(x, 2, 2, 2, 4);
        s.solutionIs(x, 10, 20, 0, 0);
        s.due("the third", x.equation(0, 0, 1, 0, 30), 2);
        s.counts(x, 3, 1, 3, 4);
        s.solutionIs(x, 10, 20, 30, 0);
    }

    private void factorsNotLookedAt() {
        s.promise(3, "factors of unknowns that there are not are not looked at");
        for (int n = 1; n <= 3; n++) {
            for (int other : new int[] {10, -10, 9, -9, LEAST, MOST}) {
                int[] odd = eq(6, n > 1 ? 4 : other, n > 2 ? 4 : other, other, 10);
                int[] zero = eq(6, n > 1 ? 4 : 0, n > 2 ? 4 : 0, 0, 10);
                WholeSolver x = s.solver(n, odd, odd);
                WholeSolver plain = s.solver(n, zero, zero);
                for (Ask ask : Ask.ALL) {
                    s.due(n + " unknowns, " + other + " behind them: " + ask.name(), ask.of(x), ask.of(plain));
                }
                s.due("invariant(1)", x.invariant(1), n == 1 ? 6 : 2);
                s.due("fails()", x.fails(), n == 1 ? 0 : NONE);
            }
        }
        s.due("one of two", s.solver(2).equation(1, 10, 0, 0, 0), NONE);
    }

    private void equationNumberTold() {
        s.promise(3, "its number.");
        for (int n = 1; n <= 4; n++) {
            WholeSolver x = s.solver(n);
            s.due("the first", x.equation(0, 0, 0, 0, 0), 0);
            s.due("refused", x.equation(10, 0, 0, 0, 0), NONE);
            s.due("the second", x.equation(0, 0, 0, 0, 0), 1);
            s.due("drop()", x.drop(), 1);
            s.due("the second again", x.equation(0, 0, 0, 0, 0), 1);
            s.due("the third", x.equation(0, 0, 0, 0, 0), 2);
        }
    }

    private void factorsRefused() {
        s.promise(3, "NONE when one is not -9 .. 9");
        for (int kind = 0; kind <= 5; kind++) {
            int n = s.kind(kind).count(3);
            for (int j = 0; j < n; j++) {
                for (int factor : new int[] {10, -10, 11, 256, LEAST, MOST}) {
                    int[] f = {9, -9, 9, -9};
                    f[j] = factor;
                    s.doesNothing(s.kind(kind), s.kind(kind), "equation" + Arrays.toString(f),
                            x -> x.equation(f[0], f[1], f[2], f[3], 0), NONE);
                }
            }
            s.due("all at the edge", s.kind(kind).equation(9, -9, 9, -9, 0), s.kind(kind).count(2));
            s.due("all at the edge", s.kind(kind).equation(-9, 9, -9, 9, 0), s.kind(kind).count(2));
        }
    }

    private void sumsOfEquationsRefused() {
        s.promise(3, "the sum not -1000 .. 1000");
        for (int kind = 0; kind <= 5; kind++) {
            for (int sum : new int[] {1001, -1001, 2000, 65536, LEAST, MOST}) {
                s.doesNothing(s.kind(kind), s.kind(kind), "equation(1, 1, 1, 1, " + sum + ")",
                        x -> x.equation(1, 1, 1, 1, sum), NONE);
            }
            s.due("the sum 1000", s.kind(kind).equation(1, 1, 1, 1, 1000), s.kind(kind).count(2));
            s.due("the sum -1000", s.kind(kind).equation(1, 1, 1, 1, -1000), s.kind(kind).count(2));
        }
    }

    private void fourthEquationRefused() {
        s.promise(3, "or there are 3.");
        for (int kind = 6; kind < Sentences.KINDS; kind++) {
            s.doesNothing(s.kind(kind), s.kind(kind), "a fourth", x -> x.equation(1, 1, 1, 1, 1), NONE);
            s.doesNothing(s.kind(kind), s.kind(kind), "a fourth of 0", x -> x.equation(0, 0, 0, 0, 0), NONE);
            s.doesNothing(s.kind(kind), s.kind(kind), "a fourth, wrong", x -> x.equation(10, 0, 0, 0, 0), NONE);
            WholeSolver x = s.kind(kind);
            s.due("drop()", x.drop(), 2);
            s.due("there is room again", x.equation(1, 1, 1, 1, 1), 2);
            s.due("a fourth", x.equation(1, 1, 1, 1, 1), NONE);
        }
    }

    private void sumTold() {
        s.promise(4, "Another sum of an equation: 1");
        for (int e = 0; e < 3; e++) {
            for (int sum : new int[] {0, 1, -1, 999, -999, 1000, -1000}) {
                WholeSolver x = s.solver(3, eq(1, 0, 0, 0, 10), eq(0, 1, 0, 0, 20), eq(0, 0, 1, 0, 30));
                s.due("sum(" + e + ", " + sum + ")", x.sum(e, sum), 1);
                s.solutionIs(x, e == 0 ? sum : 10, e == 1 ? sum : 20, e == 2 ? sum : 30);
                s.due("the same again", x.sum(e, sum), 1);
                s.counts(x, 3, 0, 3, 3);
            }
        }
    }

    private void sumsOfNoEquationRefused() {
        s.promise(4, "0, and nothing is done, when there is no such one");
        for (int kind = 0; kind < Sentences.KINDS; kind++) {
            int equations = s.kind(kind).count(2);
            for (int e : new int[] {equations, equations + 1, 3, 4, -1, -2, LEAST, MOST}) {
                s.doesNothing(s.kind(kind), s.kind(kind), "sum(" + e + ", 7)", x -> x.sum(e, 7), 0);
            }
        }
        WholeSolver x = s.kind(7);
        s.due("drop()", x.drop(), 2);
        s.due("the dropped one", x.sum(2, 7), 0);
        s.due("unknowns(4)", x.unknowns(4), 1);
        s.due("none any more", x.sum(0, 7), 0);
    }

    private void sumsRefused() {
        s.promise(4, "or it is not -1000 .. 1000.");
        for (int kind = 0; kind < Sentences.KINDS; kind++) {
            for (int e = 0; e < s.kind(kind).count(2); e++) {
                int equation = e;
                for (int sum : new int[] {1001, -1001, 2000, 65536, LEAST, MOST}) {
                    s.doesNothing(s.kind(kind), s.kind(kind), "sum(" + e + ", " + sum + ")",
                            x -> x.sum(equation, sum), 0);
                }
                s.due("sum(" + e + ", 1000)", s.kind(kind).sum(e, 1000), 1);
                s.due("sum(" + e + ", -1000)", s.kind(kind).sum(e, -1000), 1);
            }
        }
    }

    private void dropTold() {
        s.promise(5, "The last equation is no more: how many there are");
        int[][] told = {eq(2, 4, 6, 1, 5), eq(0, 3, 0, 3, 9), eq(1, 0, 1, 0, -8)};
        WholeSolver x = s.solver(4, told);
        for (int left = 2; left >= 0; left--) {
            s.due("drop()", x.drop(), left);
            WholeSolver fresh = s.solver(4, Arrays.copyOf(told, left));
            for (Ask ask : Ask.ALL) {
                s.due(left + " left: " + ask.name(), ask.of(x), ask.of(fresh));
            }
        }
        WholeSolver failing = s.solver(1, eq(1, 0, 0, 0, 3), eq(0, 0, 0, 0, 1));
        s.due("fails()", failing.fails(), 1);
        s.due("drop()", failing.drop(), 1);
        s.due("fails()", failing.fails(), NONE);
        s.due("another instead", failing.equation(2, 0, 0, 0, 6), 1);
        s.due("fails()", failing.fails(), NONE);
    }

    private void dropRefused() {
        s.promise(5, "NONE when there was none.");
        for (int n = 1; n <= 4; n++) {
            s.doesNothing(s.solver(n), s.solver(n), "drop()", WholeSolver::drop, NONE);
            WholeSolver x = s.solver(n, eq(1, 1, 1, 1, 1));
            s.due("the only one", x.drop(), 0);
            s.doesNothing(x, s.solver(n), "drop()", WholeSolver::drop, NONE);
            s.due("the first all the same", x.equation(1, 1, 1, 1, 1), 0);
            s.due("unknowns", x.unknowns(n), 1);
            s.due("none by unknowns", x.drop(), NONE);
        }
        s.due("a new object", new WholeSolver().drop(), NONE);
    }
}
