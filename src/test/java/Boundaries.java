/** Tests of boundary cases, each begun by the sentence of the document that it is for. */
abstract class Boundaries {
    static final int NONE = Dues.NONE;
    static final long NOTHING = Dues.NOTHING;
    static final int LEAST = Integer.MIN_VALUE;
    static final int MOST = Integer.MAX_VALUE;

    final Sentences s;

    Boundaries(Sentences s) {
        this.s = s;
    }

    abstract void all();

    static int[] eq(int a, int b, int c, int d, int sum) {
        return Dues.eq(a, b, c, d, sum);
    }
}
