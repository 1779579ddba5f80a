import java.util.Random;

/**
 * What is known of all matroids must hold of drawn ones: this asks no oracle, so that a misreading which
 * program and oracle share may show here.
 */
public final class TheoremsTest {
    private static final int VIEWS = 1500;
    private static final int NONE = -1;

    private final Random random = new Random(11);
    private int wrong;

    private TheoremsTest() {
    }

    public static void main(String[] args) {
        TheoremsTest test = new TheoremsTest();
        for (int view = 0; view < VIEWS; view++) {
            Counted x = test.drawn();
            test.lookAtWritings(x);
            test.lookAtDual(x);
            test.lookAtMinors(x);
            test.lookAtOtherNumbers(x);
        }
        System.out.println(VIEWS + " drawn VIEWS, theorems that didn't hold: " + test.wrong);
        if (test.wrong != 0) {
            System.exit(1);
        }
    }

    private void holds(String theorem, boolean does) {
        if (!does) {
            wrong++;
            System.out.println(theorem);
        }
    }

    /** VIEW 0: by COLUMNS over any FIELD, now and then one of its CIRCUITS that are HYPERPLANES a BASE. */
    private Counted drawn() {
        Counted x = new Counted();
        int n = 3 + random.nextInt(5);
        x.seed(random.nextInt());
        x.deal(0, random.nextInt(4), n, 1 + random.nextInt(4));
        if (random.nextInt(3) == 0) {
            x.dual(0, 0);
        }
        for (int k = 0; k < x.many(0, 3) && random.nextInt(2) == 0; k++) {
            int set = x.at(0, 3, k);
            if (x.sorts(0, set) == 28) {
                loosen(x, set, n);
                return x;
            }
        }
        return x;
    }

    private static void loosen(Counted x, int set, int n) {
        int bases = x.list(0, 0);
        x.sheet(1, 1, bases + 1);
        x.copy(0, 0, 1, 0, bases);
        x.write(1, bases, set);
        x.tell(0, 1, n);
    }

    private void lookAtWritings(Counted x) {
        int overTwo = x.writings(0, 0);
        int overThree = x.writings(0, 1);
        holds("over TWO there is one way at most", overTwo <= 1);
        holds("over THREE there is one way at most", overThree <= 1);
        holds("over TWO: what isn't excluded can be", overTwo == 1 == (x.excluded(0, 0, 0) == NONE));
        holds("over TWO: what doesn't clash can be", overTwo == 1 == (x.clash(0) == NONE));
        holds("over THREE: what isn't excluded can be", overThree == 1 == (x.excluded(0, 1, 0) == NONE));
        if (overTwo == 1) {
            holds("over TWO and THREE: over FIVE, too", x.writings(0, 2) == 1 || overThree == 0);
            holds("over TWO: over FOUR just so", x.writings(0, 3) == 1);
        }
        for (int field = 0; field < 4; field++) {
            int ways = x.writings(0, field);
            int columns = x.writes(0, field, 2);
            holds("the first of as many", ways > 0 == columns >= 0);
            if (ways > 0) {
                x.columns(1, field, 2, columns);
                holds("the first is as the VIEW", x.same(0, 1) == 1);
            }
        }
    }

    private void lookAtDual(Counted x) {
        int n = x.many(0, 0);
        int rank = x.rank(0, (1 << n) - 1);
        holds("RANKS of both are all", x.dual(0, 1) == n - rank);
        for (int field = 0; field < 4; field++) {
            holds("as many ways for the DUAL", x.writings(0, field) == x.writings(1, field));
        }
        holds("as many BASES", x.many(0, 2) == x.many(1, 2));
        for (int k = 0; k < 5 && k < x.many(0, 2); k++) {
            holds("all but a BASE is a BASE", (x.sorts(1, (1 << n) - 1 & ~x.at(0, 2, k)) & 2) != 0);
        }
        for (int k = 0; k < 5 && k < x.many(0, 3); k++) {
            holds("all but a CIRCUIT is a HYPERPLANE", (x.sorts(1, (1 << n) - 1 & ~x.at(0, 3, k)) & 16) != 0);
        }
        holds("as many CIRCUITS as HYPERPLANES there", x.many(0, 3) == x.many(1, 5));
        x.dual(1, 2);
        holds("the DUAL of the DUAL", x.same(0, 2) == 1);
    }

    private void lookAtMinors(Counted x) {
        int all = (1 << x.many(0, 0)) - 1;
        int into = random.nextInt(all + 1);
        int gone = random.nextInt(all + 1) & ~into;
        x.dual(0, 1);
        x.minor(0, 2, into, gone);
        x.dual(2, 2);
        x.minor(1, 3, gone, into);
        holds("the DUAL of a MINOR is the MINOR of the DUAL", x.same(2, 3) == 1);
        x.minor(0, 2, into, 0);
        x.minor(0, 3, into, gone);
        for (int field = 0; field < 4; field++) {
            boolean can = x.writings(0, field) > 0;
            holds("what can be, can as a MINOR", !can || x.writings(2, field) > 0 && x.writings(3, field) > 0);
        }
    }

    private void lookAtOtherNumbers(Counted x) {
        int n = x.many(0, 0);
        x.sheet(3, 1, n);
        for (int e = 0; e < n; e++) {
            int from = random.nextInt(e + 1);
            x.write(3, e, from == e ? e : x.item(3, from));
            x.write(3, from, e);
        }
        holds("renumber", x.renumber(0, 1, 3) == 1);
        for (int field = 0; field < 4; field++) {
            holds("as many ways by other numbers", x.writings(0, field) == x.writings(1, field));
        }
        for (int what = 1; what < 6; what++) {
            holds("as many sets by other numbers", x.many(0, what) == x.many(1, what));
        }
        holds("alike by other numbers", x.alike(0, 1) == (n == 7 ? -5 : 1));
        x.union(0, 0, 2);
        x.union(1, 1, 3);
        holds("as many BASES of the UNION with itself", x.many(2, 2) == x.many(3, 2));
    }
}
