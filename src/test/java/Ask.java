import java.util.ArrayList;
import java.util.List;
import java.util.function.ToLongFunction;

/** A call that changes nothing, with its arguments. */
record Ask(String name, ToLongFunction<WholeSolver> call) {
    /** Every such call of the face, with arguments in and around all that there may be. */
    static final List<Ask> ALL = all();

    long of(WholeSolver x) {
        return call.applyAsLong(x);
    }

    private static List<Ask> all() {
        List<Ask> asks = new ArrayList<>();
        asks.add(new Ask("solve()", WholeSolver::solve));
        asks.add(new Ask("fails()", WholeSolver::fails));
        asks.add(new Ask("spread()", WholeSolver::spread));
        asks.add(new Ask("check()", WholeSolver::check));
        for (int i = -1; i <= 4; i++) {
            withOne(asks, i);
            for (int j = -1; j <= 4; j++) {
                withTwo(asks, i, j);
            }
        }
        for (int m : new int[] {0, 1, 6, 40, 41}) {
            asks.add(new Ask("modulo(" + m + ")", x -> x.modulo(m)));
        }
        asks.add(new Ask("box(-12, 12)", x -> x.box(-12, 12)));
        asks.add(new Ask("box(-13, 12)", x -> x.box(-13, 12)));
        asks.add(new Ask("box(0, 4)", x -> x.box(0, 4)));
        asks.add(new Ask("reached(2, -3, 9)", x -> x.reached(2, -3, 9)));
        asks.add(new Ask("reached(1, 0, 0)", x -> x.reached(1, 0, 0)));
        return asks;
    }

    private static void withOne(List<Ask> asks, int i) {
        asks.add(new Ask("solution(" + i + ")", x -> x.solution(i)));
        asks.add(new Ask("count(" + i + ")", x -> x.count(i)));
        asks.add(new Ask("invariant(" + i + ")", x -> x.invariant(i)));
    }

    private static void withTwo(List<Ask> asks, int i, int j) {
        asks.add(new Ask("basis(" + i + ", " + j + ")", x -> x.basis(i, j)));
        // No reach has a fourth row or a fourth number.
        if (i <= 3 && j <= 3) {
            asks.add(new Ask("reach(" + i + ", " + j + ")", x -> x.reach(i, j)));
        }
    }
}
