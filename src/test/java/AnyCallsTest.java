import java.util.ArrayList;
import java.util.List;
import java.util.Random;

/**
 * Runs of 512 calls with any arguments. None throws; the state is what a plain account of the accepted
 * calls says; and all answers are those of a new object that is told just that state.
 */
final class AnyCallsTest {
    private static final int CALLS = 512;
    private static final int[] EDGES = {
        0, 1, -1, 2, 3, 4, 5, 9, -9, 10, -10, 12, -12, 13, -13, 40, 41, 1000, -1000, 1001, -1001,
        Integer.MAX_VALUE, Integer.MIN_VALUE, Integer.MAX_VALUE - 1, Integer.MIN_VALUE + 1};

    private final Dues dues;
    private final Random random;
    private final WholeSolver x = new WholeSolver();
    private int unknowns = 1;
    private final List<int[]> equations = new ArrayList<>();

    private AnyCallsTest(Dues dues, Random random) {
        this.dues = dues;
        this.random = random;
    }

    public static void main(String[] args) {
        Dues dues = new Dues();
        for (int run = 0; run < 400; run++) {
            AnyCallsTest test = new AnyCallsTest(dues, new Random(run));
            for (int call = 0; call < CALLS; call++) {
                dues.at("run " + run + ", call " + call);
                test.anyCall();
            }
        }
        dues.end();
    }

    private void anyCall() {
        try {
            if (random.nextInt(3) == 0) {
                change();
            } else {
                int which = random.nextInt(12);
                int[] a = {any(), any(), any()};
                String query = "query " + which + " of " + a[0] + ", " + a[1] + ", " + a[2];
                dues.due(query, ask(x, which, a), ask(asTold(), which, a));
            }
        } catch (RuntimeException thrown) {
            dues.holds("no throw: " + thrown, false);
        }
    }

    private int any() {
        switch (random.nextInt(4)) {
            case 0:
                return EDGES[random.nextInt(EDGES.length)];
            case 1:
                return random.nextInt();
            default:
                return random.nextInt(8) - 2;
        }
    }

    private void change() {
        switch (random.nextInt(6)) {
            case 0:
                tellUnknowns(any());
                break;
            case 1:
                tellSum(random.nextInt(4), any());
                break;
            case 2:
                tellSum(any(), any());
                break;
            case 3:
                int left = equations.isEmpty() ? -1 : equations.size() - 1;
                dues.due("drop()", x.drop(), left);
                if (left >= 0) {
                    equations.remove(left);
                }
                break;
            default:
                int odd = random.nextInt(10);
                int[] q = new int[5];
                for (int j = 0; j < 5; j++) {
                    q[j] = j == odd ? any() : random.nextInt(19) - 9;
                }
                tellEquation(q);
        }
    }

    private void tellUnknowns(int n) {
        boolean right = n >= 1 && n <= 4;
        dues.due("unknowns(" + n + ")", x.unknowns(n), right ? 1 : 0);
        if (right) {
            unknowns = n;
            equations.clear();
        }
    }

    private void tellSum(int e, int sum) {
        boolean right = e >= 0 && e < equations.size() && sum >= -1000 && sum <= 1000;
        dues.due("sum(" + e + ", " + sum + ")", x.sum(e, sum), right ? 1 : 0);
        if (right) {
            equations.get(e)[4] = sum;
        }
    }

    private void tellEquation(int[] q) {
        boolean right = equations.size() < 3 && q[4] >= -1000 && q[4] <= 1000;
        for (int j = 0; j < unknowns; j++) {
            right = right && q[j] >= -9 && q[j] <= 9;
        }
        dues.due("equation", x.equation(q[0], q[1], q[2], q[3], q[4]), right ? equations.size() : -1);
        if (right) {
            equations.add(q);
        }
    }

    private WholeSolver asTold() {
        WholeSolver fresh = new WholeSolver();
        fresh.unknowns(unknowns);
        for (int[] q : equations) {
            fresh.equation(q[0], q[1], q[2], q[3], q[4]);
        }
        return fresh;
    }

    private static long ask(WholeSolver s, int which, int[] a) {
        switch (which) {
            case 0:
                return s.solve();
            case 1:
                return s.fails();
            case 2:
                return s.solution(a[0]);
            case 3:
                return s.basis(a[0], a[1]);
            case 4:
                return s.count(a[0]);
            case 5:
                return s.reach(a[0], a[1]);
            case 6:
                return s.reached(a[0], a[1], a[2]);
            case 7:
                return s.invariant(a[0]);
            case 8:
                return s.box(a[0], a[1]);
            case 9:
                return s.modulo(a[0]);
            case 10:
                return s.spread();
            default:
                return s.check();
        }
    }
}
