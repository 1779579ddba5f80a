/** Looks at boundary cases one by one, each on an object of its own, and tells which don't hold. */
final class Edges {
    static final int NONE = -1, BAD = -2, STATE = -3, MUCH = -5;
    static final int NOTHING = -11, OUTSIDE = -12, OTHER = -13, BELOW = -14, PARTED = -15;
    static final int LEAST = Integer.MIN_VALUE, MOST = Integer.MAX_VALUE;
    static final int BYTES = 0, INTS = 1;
    static final int[] SIZES = {2, 3, 5, 4};

    interface Case {
        void look(Counted x);
    }

    interface Ask {
        int of(Counted x);
    }

    private int promise;
    private String words;
    private int cases;
    private int wrong;

    void promise(int number) {
        promise = number;
    }

    /** On a new object. */
    void edge(String of, Case body) {
        words = of;
        cases++;
        body.look(new Counted());
    }

    /** On an object that has something of all kinds: it answers so, and all is then as it was. */
    void leaves(String of, int want, Ask ask) {
        words = of;
        cases++;
        Counted asked = Furnished.object();
        is(ask.of(asked), want);
        String before = Furnished.look(Furnished.object());
        String after = Furnished.look(asked);
        if (!before.equals(after)) {
            fault("has changed something: it was " + before + " and is " + after);
        }
    }

    void is(int got, int want) {
        if (got != want) {
            fault("answered " + got + ", due is " + want);
        }
    }

    private void fault(String what) {
        wrong++;
        System.out.println("promise " + promise + ", " + words + ": " + what);
    }

    /** A SHEET becomes a row of these. */
    void fill(Counted x, int s, int sort, int... numbers) {
        is(x.sheet(s, sort, numbers.length), 1);
        for (int i = 0; i < numbers.length; i++) {
            is(x.write(s, i, numbers[i]), 1);
        }
    }

    /** A SHEET is a row of just these. */
    void row(Counted x, int s, int... numbers) {
        for (int i = 0; i < numbers.length; i++) {
            is(x.item(s, i), numbers[i]);
        }
        is(x.item(s, numbers.length), OUTSIDE);
    }

    /** A VIEW is that of n ELEMENTS in which RANK is how many a set has, r at most. */
    void uniform(Counted x, int v, int n, int r) {
        is(x.many(v, 0), n);
        for (int set = 0; set < 1 << n; set++) {
            is(x.rank(v, set), Math.min(r, Integer.bitCount(set)));
        }
        is(x.rank(v, 1 << n), BAD);
    }

    void cause(Counted x, int sort, int place, int second, int element) {
        is(x.cause(0), sort);
        is(x.cause(1), place);
        is(x.cause(2), second);
        is(x.cause(3), element);
    }

    void end() {
        System.out.println(cases + " boundary cases, wrong: " + wrong);
        if (wrong != 0) {
            System.exit(1);
        }
    }
}
