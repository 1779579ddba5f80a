/** Boundary cases of promises 13 to 18: dual, minor, union, renumber, same, alike. */
public final class EdgesOfMadeViewsTest {
    private static final Edges EDGES = new Edges();

    private EdgesOfMadeViewsTest() {
    }

    public static void main(String[] args) {
        dual();
        minor();
        minorOfAll();
        minorRefused();
        union();
        unionRefused();
        renumber();
        renumberRefused();
        same();
        sameRefused();
        alike();
        alikeOfMany();
        EDGES.end();
    }

    private static void is(int got, int want) {
        EDGES.is(got, want);
    }

    /** A VIEW of four ELEMENTS: 0 idle, 1 and 2 beside one another, 3 beside none; RANK 2. */
    private static void mixed(Counted x, int v) {
        EDGES.fill(x, 3, Edges.INTS, 0, 1, 1, 2);
        is(x.columns(v, 0, 3, 4), 2);
    }

    private static void ranks(Counted x, int v, int... want) {
        for (int set = 0; set < want.length; set++) {
            is(x.rank(v, set), want[set]);
        }
        is(x.rank(v, want.length), Edges.BAD);
    }

    private static void dual() {
        EDGES.promise(13);
        EDGES.edge("no ELEMENTS", x -> {
            is(x.uniform(1, 7, 3), 1);
            is(x.dual(0, 1), 0);
            EDGES.uniform(x, 1, 0, 0);
            is(x.dual(0, 0), 0);
            EDGES.uniform(x, 0, 0, 0);
        });
        EDGES.edge("seven that are FREE become idle, and idle ones FREE", x -> {
            is(x.uniform(0, 7, 7), 1);
            is(x.dual(0, 1), 0);
            EDGES.uniform(x, 1, 7, 0);
            is(x.dual(1, 1), 7);
            is(x.same(0, 1), 1);
        });
        EDGES.edge("one ELEMENT", x -> {
            is(x.uniform(0, 1, 0), 1);
            is(x.dual(0, 0), 1);
            EDGES.uniform(x, 0, 1, 1);
            is(x.dual(0, 0), 0);
            EDGES.uniform(x, 0, 1, 0);
        });
        EDGES.edge("w may be v", x -> {
            mixed(x, 0);
            is(x.dual(0, 0), 2);
            ranks(x, 0, 0, 1, 1, 2, 1, 2, 1, 2, 0, 1, 1, 2, 1, 2, 1, 2);
        });
        EDGES.edge("w isn't v: v stays", x -> {
            mixed(x, 0);
            is(x.dual(0, 3), 2);
            ranks(x, 3, 0, 1, 1, 2, 1, 2, 1, 2, 0, 1, 1, 2, 1, 2, 1, 2);
            ranks(x, 0, 0, 0, 1, 1, 1, 1, 1, 1, 1, 1, 2, 2, 2, 2, 2, 2);
            is(x.dual(3, 3), 2);
            is(x.same(0, 3), 1);
        });
        EDGES.edge("it doesn't follow v later", x -> {
            mixed(x, 0);
            is(x.dual(0, 1), 2);
            is(x.uniform(0, 7, 7), 1);
            is(x.many(1, 0), 4);
            is(x.rank(1, 15), 2);
        });
        EDGES.leaves("v -1: BAD", Edges.BAD, x -> x.dual(-1, 0));
        EDGES.leaves("v 4: BAD", Edges.BAD, x -> x.dual(4, 0));
        EDGES.leaves("w -1: BAD", Edges.BAD, x -> x.dual(1, -1));
        EDGES.leaves("w 4: BAD", Edges.BAD, x -> x.dual(1, 4));
        EDGES.leaves("extremes: BAD", Edges.BAD, x -> x.dual(Edges.LEAST, Edges.MOST));
    }

    private static void minor() {
        EDGES.promise(14);
        EDGES.edge("nothing gone into, nothing gone: the same", x -> {
            mixed(x, 0);
            is(x.minor(0, 1, 0, 0), 4);
            is(x.same(0, 1), 1);
            is(x.minor(0, 0, 0, 0), 4);
            is(x.same(0, 1), 1);
        });
        EDGES.edge("the lowest ELEMENT goes, the highest goes: numbered anew", x -> {
            mixed(x, 0);
            is(x.minor(0, 1, 0, 1), 3);
            ranks(x, 1, 0, 1, 1, 1, 1, 2, 2, 2);
            is(x.minor(0, 1, 0, 8), 3);
            ranks(x, 1, 0, 0, 1, 1, 1, 1, 1, 1);
            is(x.minor(0, 1, 0, 2), 3);
            ranks(x, 1, 0, 0, 1, 1, 1, 1, 2, 2);
        });
        EDGES.edge("the lowest is gone into, the highest is", x -> {
            mixed(x, 0);
            is(x.minor(0, 1, 1, 0), 3);
            ranks(x, 1, 0, 1, 1, 1, 1, 2, 2, 2);
            is(x.minor(0, 1, 8, 0), 3);
            ranks(x, 1, 0, 0, 1, 1, 1, 1, 1, 1);
            is(x.minor(0, 1, 4, 0), 3);
            ranks(x, 1, 0, 0, 0, 0, 1, 1, 1, 1);
        });
        EDGES.edge("both", x -> {
            mixed(x, 0);
            is(x.minor(0, 1, 2, 8), 2);
            EDGES.uniform(x, 1, 2, 0);
            is(x.minor(0, 1, 8, 2), 2);
            ranks(x, 1, 0, 0, 1, 1);
            is(x.uniform(0, 7, 4), 1);
            is(x.minor(0, 1, 64, 1), 5);
            EDGES.uniform(x, 1, 5, 3);
            is(x.minor(0, 2, 0b0010101, 0b1000010), 2);
            EDGES.uniform(x, 2, 2, 1);
        });
        EDGES.edge("w may be v", x -> {
            mixed(x, 0);
            is(x.minor(0, 0, 2, 1), 2);
            ranks(x, 0, 0, 0, 1, 1);
        });
        EDGES.edge("w isn't v: v stays", x -> {
            mixed(x, 0);
            is(x.minor(0, 1, 2, 1), 2);
            ranks(x, 0, 0, 0, 1, 1, 1, 1, 1, 1, 1, 1, 2, 2, 2, 2, 2, 2);
        });
        EDGES.edge("what was in w before leaves no trace", x -> {
            mixed(x, 0);
            is(x.uniform(1, 7, 7), 1);
            is(x.minor(0, 1, 0, 1), 3);
            is(x.minor(0, 2, 0, 1), 3);
            is(x.same(1, 2), 1);
            is(x.many(1, 1), 6);
        });
    }

    private static void minorOfAll() {
        EDGES.edge("all gone into: no ELEMENTS", x -> {
            mixed(x, 0);
            is(x.minor(0, 1, 15, 0), 0);
            EDGES.uniform(x, 1, 0, 0);
        });
        EDGES.edge("all gone: no ELEMENTS", x -> {
            mixed(x, 0);
            is(x.minor(0, 1, 0, 15), 0);
            EDGES.uniform(x, 1, 0, 0);
        });
        EDGES.edge("seven, all but one", x -> {
            is(x.uniform(0, 7, 7), 1);
            is(x.minor(0, 1, 63, 0), 1);
            EDGES.uniform(x, 1, 1, 1);
            is(x.minor(0, 1, 0, 126), 1);
            EDGES.uniform(x, 1, 1, 1);
            is(x.uniform(0, 7, 6), 1);
            is(x.minor(0, 1, 126, 0), 1);
            EDGES.uniform(x, 1, 1, 0);
            is(x.minor(0, 1, 0, 63), 1);
            EDGES.uniform(x, 1, 1, 1);
        });
        EDGES.edge("all of seven, some gone into and some gone", x -> {
            is(x.uniform(0, 7, 3), 1);
            is(x.minor(0, 0, 0b1010101, 0b0101010), 0);
            EDGES.uniform(x, 0, 0, 0);
        });
        EDGES.edge("no ELEMENTS", x -> {
            is(x.uniform(1, 2, 2), 1);
            is(x.minor(0, 1, 0, 0), 0);
            EDGES.uniform(x, 1, 0, 0);
        });
    }

    private static void minorRefused() {
        EDGES.leaves("v -1: BAD", Edges.BAD, x -> x.minor(-1, 0, 0, 0));
        EDGES.leaves("v 4: BAD", Edges.BAD, x -> x.minor(4, 0, 0, 0));
        EDGES.leaves("w -1: BAD", Edges.BAD, x -> x.minor(0, -1, 1, 0));
        EDGES.leaves("w 4: BAD", Edges.BAD, x -> x.minor(0, 4, 1, 0));
        EDGES.leaves("x with one above the highest ELEMENT: BAD", Edges.BAD, x -> x.minor(0, 0, 16, 1));
        EDGES.leaves("y with one above the highest ELEMENT: BAD", Edges.BAD, x -> x.minor(0, 0, 1, 16));
        EDGES.leaves("x below 0: BAD", Edges.BAD, x -> x.minor(0, 0, -1, 0));
        EDGES.leaves("y below 0: BAD", Edges.BAD, x -> x.minor(0, 0, 0, -16));
        EDGES.leaves("x least: BAD", Edges.BAD, x -> x.minor(0, 0, Edges.LEAST, 0));
        EDGES.leaves("y least: BAD", Edges.BAD, x -> x.minor(0, 0, 0, Edges.LEAST));
        EDGES.leaves("one in both: BAD", Edges.BAD, x -> x.minor(0, 0, 1, 1));
        EDGES.leaves("the highest in both: BAD", Edges.BAD, x -> x.minor(0, 0, 12, 9));
        EDGES.leaves("all in both: BAD", Edges.BAD, x -> x.minor(0, 0, 15, 15));
        EDGES.leaves("no ELEMENTS: BAD", Edges.BAD, x -> x.minor(3, 0, 1, 0));
        EDGES.leaves("an ELEMENT of w that is none of v: BAD", Edges.BAD, x -> x.minor(2, 1, 16, 0));
    }

    private static void union() {
        EDGES.promise(15);
        EDGES.edge("no ELEMENTS", x -> {
            is(x.uniform(2, 3, 3), 1);
            is(x.union(0, 1, 2), 0);
            EDGES.uniform(x, 2, 0, 0);
        });
        EDGES.edge("with one of RANK 0: the same", x -> {
            mixed(x, 0);
            is(x.uniform(1, 4, 0), 1);
            is(x.union(0, 1, 2), 2);
            is(x.same(0, 2), 1);
            is(x.union(1, 0, 2), 2);
            is(x.same(0, 2), 1);
            is(x.union(1, 1, 3), 0);
            is(x.same(1, 3), 1);
        });
        EDGES.edge("RANKS together are as many as ELEMENTS, or more", x -> {
            is(x.uniform(0, 7, 3), 1);
            is(x.uniform(1, 7, 4), 1);
            is(x.union(0, 1, 2), 7);
            is(x.many(2, 1), 128);
            is(x.union(1, 1, 2), 7);
            is(x.many(2, 1), 128);
            is(x.union(0, 0, 2), 6);
            is(x.many(2, 2), 7);
        });
        EDGES.edge("with one that is FREE: FREE", x -> {
            mixed(x, 0);
            is(x.uniform(1, 4, 4), 1);
            is(x.union(0, 1, 0), 4);
            EDGES.uniform(x, 0, 4, 4);
        });
        EDGES.edge("u may be v, w, both", x -> {
            mixed(x, 0);
            is(x.uniform(1, 4, 1), 1);
            is(x.union(0, 1, 2), 3);
            ranks(x, 2, 0, 1, 1, 2, 1, 2, 2, 2, 1, 2, 2, 3, 2, 3, 3, 3);
            mixed(x, 3);
            is(x.union(3, 1, 3), 3);
            is(x.same(2, 3), 1);
            is(x.union(0, 1, 1), 3);
            is(x.same(2, 1), 1);
            is(x.union(0, 0, 0), 3);
            ranks(x, 0, 0, 0, 1, 1, 1, 1, 2, 2, 1, 1, 2, 2, 2, 2, 3, 3);
        });
        EDGES.edge("u is another: v and w stay", x -> {
            mixed(x, 0);
            mixed(x, 2);
            is(x.uniform(1, 4, 1), 1);
            is(x.union(0, 1, 3), 3);
            is(x.same(0, 2), 1);
            EDGES.uniform(x, 1, 4, 1);
        });
    }

    private static void unionRefused() {
        EDGES.leaves("unlike many: STATE", Edges.STATE, x -> x.union(0, 1, 0));
        EDGES.leaves("unlike many, one of none: STATE", Edges.STATE, x -> x.union(0, 3, 1));
        EDGES.leaves("unlike many, the other of none: STATE", Edges.STATE, x -> x.union(3, 0, 1));
        EDGES.leaves("BAD before STATE", Edges.BAD, x -> x.union(0, 1, 4));
        EDGES.leaves("v -1: BAD", Edges.BAD, x -> x.union(-1, 0, 0));
        EDGES.leaves("v 4: BAD", Edges.BAD, x -> x.union(4, 0, 0));
        EDGES.leaves("w -1: BAD", Edges.BAD, x -> x.union(0, -1, 0));
        EDGES.leaves("w 4: BAD", Edges.BAD, x -> x.union(0, 4, 0));
        EDGES.leaves("u -1: BAD", Edges.BAD, x -> x.union(0, 0, -1));
        EDGES.leaves("u 4: BAD", Edges.BAD, x -> x.union(0, 0, 4));
        EDGES.edge("the many of u don't matter", x -> {
            is(x.uniform(0, 2, 1), 1);
            is(x.uniform(1, 7, 5), 1);
            is(x.union(0, 0, 1), 2);
            EDGES.uniform(x, 1, 2, 2);
        });
    }

    private static void renumber() {
        EDGES.promise(16);
        EDGES.edge("no ELEMENTS, a SHEET of no numbers", x -> {
            is(x.sheet(0, Edges.BYTES, 0), 1);
            is(x.uniform(1, 4, 4), 1);
            is(x.renumber(0, 1, 0), 1);
            EDGES.uniform(x, 1, 0, 0);
        });
        EDGES.edge("no ELEMENTS: whatever the SHEET tells", x -> {
            EDGES.fill(x, 0, Edges.INTS, 7, 7, -1);
            is(x.renumber(0, 1, 0), 1);
        });
        EDGES.edge("one ELEMENT", x -> {
            is(x.uniform(0, 1, 1), 1);
            EDGES.fill(x, 0, Edges.INTS, 0);
            is(x.renumber(0, 1, 0), 1);
            EDGES.uniform(x, 1, 1, 1);
            is(x.write(0, 0, 1), 1);
            is(x.renumber(0, 1, 0), Edges.STATE);
        });
        EDGES.edge("each keeps its number", x -> {
            mixed(x, 0);
            EDGES.fill(x, 0, Edges.INTS, 0, 1, 2, 3);
            is(x.renumber(0, 1, 0), 1);
            is(x.same(0, 1), 1);
        });
        EDGES.edge("round about: place e tells the new number of e, not the old one", x -> {
            mixed(x, 0);
            EDGES.fill(x, 0, Edges.INTS, 1, 2, 3, 0);
            is(x.renumber(0, 1, 0), 1);
            ranks(x, 1, 0, 1, 0, 1, 1, 2, 1, 2, 1, 2, 1, 2, 1, 2, 1, 2);
            ranks(x, 0, 0, 0, 1, 1, 1, 1, 1, 1, 1, 1, 2, 2, 2, 2, 2, 2);
        });
        EDGES.edge("w may be v", x -> {
            mixed(x, 0);
            EDGES.fill(x, 0, Edges.BYTES, 1, 2, 3, 0);
            is(x.renumber(0, 0, 0), 1);
            ranks(x, 0, 0, 1, 0, 1, 1, 2, 1, 2, 1, 2, 1, 2, 1, 2, 1, 2);
        });
        EDGES.edge("seven turned round", x -> {
            EDGES.fill(x, 0, Edges.INTS, 1, 1, 2, 0, 4, 8, 16);
            is(x.columns(0, 0, 0, 7), 5);
            EDGES.fill(x, 0, Edges.INTS, 6, 5, 4, 3, 2, 1, 0);
            is(x.renumber(0, 1, 0), 1);
            is(x.rank(1, 0b1100000), 1);
            is(x.rank(1, 0b0001000), 0);
            is(x.rank(1, 0b1010111), 5);
            is(x.many(1, 3), 2);
        });
        EDGES.edge("numbers behind those of ELEMENTS don't count", x -> {
            mixed(x, 0);
            EDGES.fill(x, 0, Edges.INTS, 0, 1, 2, 3, 3, -1, Edges.MOST);
            is(x.renumber(0, 1, 0), 1);
            is(x.same(0, 1), 1);
        });
    }

    private static void renumberRefused() {
        EDGES.leaves("v -1: BAD", Edges.BAD, x -> x.renumber(-1, 0, 0));
        EDGES.leaves("v 4: BAD", Edges.BAD, x -> x.renumber(4, 0, 0));
        EDGES.leaves("w -1: BAD", Edges.BAD, x -> x.renumber(1, -1, 0));
        EDGES.leaves("w 4: BAD", Edges.BAD, x -> x.renumber(1, 4, 0));
        EDGES.leaves("s -1: BAD", Edges.BAD, x -> x.renumber(1, 0, -1));
        EDGES.leaves("s 4: BAD", Edges.BAD, x -> x.renumber(1, 0, 4));
        EDGES.leaves("BAD before -11", Edges.BAD, x -> x.renumber(1, 4, 3));
        EDGES.leaves("missing: -11", Edges.NOTHING, x -> x.renumber(1, 0, 3));
        EDGES.leaves("missing: -11, of no ELEMENTS too", Edges.NOTHING, x -> x.renumber(3, 0, 3));
        EDGES.leaves("one number too few: -12, before STATE", Edges.OUTSIDE, x -> x.renumber(0, 2, 1));
        EDGES.leaves("none of one at least: -12", Edges.OUTSIDE, x -> x.renumber(2, 1, 2));
        EDGES.leaves("the first three of five aren't 0 to 2: STATE", Edges.STATE, x -> x.renumber(2, 1, 0));
        EDGES.edge("one twice, too high, below 0, at the first or the last place: STATE", x -> {
            mixed(x, 0);
            int[][] wrong = {{1, 1, 2, 3}, {0, 1, 2, 2}, {0, 1, 2, 4}, {4, 1, 2, 3}, {0, 1, 2, -1}, {-1, 1, 2, 3},
                {0, 0, 0, 0}, {Edges.LEAST, 1, 2, 3}, {0, 1, 2, Edges.MOST}, {0, 1, 2, 35}, {32, 1, 2, 3}};
            for (int[] numbers : wrong) {
                EDGES.fill(x, 0, Edges.INTS, numbers);
                is(x.renumber(0, 0, 0), Edges.STATE);
                is(x.renumber(0, 1, 0), Edges.STATE);
            }
            ranks(x, 0, 0, 0, 1, 1, 1, 1, 1, 1, 1, 1, 2, 2, 2, 2, 2, 2);
            is(x.many(1, 0), 0);
        });
        EDGES.edge("as many numbers as v has, not as w has", x -> {
            is(x.uniform(0, 3, 1), 1);
            is(x.uniform(1, 5, 5), 1);
            EDGES.fill(x, 0, Edges.INTS, 2, 0, 1);
            is(x.renumber(0, 1, 0), 1);
            EDGES.uniform(x, 1, 3, 1);
        });
    }

    private static void same() {
        EDGES.promise(17);
        EDGES.edge("no ELEMENTS", x -> is(x.same(0, 3), 1));
        EDGES.edge("itself", x -> {
            mixed(x, 0);
            is(x.same(0, 0), 1);
            is(x.same(3, 3), 1);
        });
        EDGES.edge("unlike many, with like RANKS where both have sets", x -> {
            is(x.uniform(0, 0, 0), 1);
            is(x.uniform(1, 1, 0), 1);
            is(x.same(0, 1), 0);
            is(x.same(1, 0), 0);
            is(x.uniform(0, 6, 3), 1);
            is(x.uniform(1, 7, 3), 1);
            is(x.same(0, 1), 0);
            is(x.same(1, 0), 0);
        });
        EDGES.edge("unlike in RANK of all alone", x -> {
            is(x.uniform(0, 7, 6), 1);
            is(x.uniform(1, 7, 7), 1);
            is(x.same(0, 1), 0);
            is(x.uniform(0, 1, 0), 1);
            is(x.uniform(1, 1, 1), 1);
            is(x.same(0, 1), 0);
        });
        EDGES.edge("numbered otherwise isn't the same", x -> {
            mixed(x, 0);
            EDGES.fill(x, 0, Edges.INTS, 3, 1, 2, 0);
            is(x.renumber(0, 1, 0), 1);
            is(x.same(0, 1), 0);
            is(x.same(1, 0), 0);
        });
        EDGES.edge("made in other ways, with other VIEWS there before", x -> {
            is(x.uniform(1, 7, 7), 1);
            is(x.uniform(1, 3, 2), 1);
            EDGES.fill(x, 0, Edges.INTS, 3, 5, 6);
            is(x.tell(0, 0, 3), 2);
            is(x.same(0, 1), 1);
            is(x.columns(2, 0, 0, 3), 2);
            is(x.same(1, 2), 1);
        });
    }

    private static void sameRefused() {
        EDGES.leaves("v -1: BAD", Edges.BAD, x -> x.same(-1, 0));
        EDGES.leaves("v 4: BAD", Edges.BAD, x -> x.same(4, 0));
        EDGES.leaves("w -1: BAD", Edges.BAD, x -> x.same(0, -1));
        EDGES.leaves("w 4: BAD", Edges.BAD, x -> x.same(0, 4));
        EDGES.leaves("both none, and the same: BAD", Edges.BAD, x -> x.same(4, 4));
        EDGES.leaves("what is asked changes nothing", 0, x -> x.same(0, 1));
    }

    private static void alike() {
        EDGES.promise(18);
        EDGES.edge("no ELEMENTS", x -> is(x.alike(0, 3), 1));
        EDGES.edge("one ELEMENT", x -> {
            is(x.uniform(0, 1, 0), 1);
            is(x.uniform(1, 1, 1), 1);
            is(x.alike(0, 1), 0);
            is(x.alike(0, 0), 1);
            is(x.alike(1, 2), 0);
        });
        EDGES.edge("six ELEMENTS turned round", x -> {
            EDGES.fill(x, 0, Edges.INTS, 0, 1, 1, 2, 4, 6);
            is(x.columns(0, 0, 0, 6), 3);
            EDGES.fill(x, 0, Edges.INTS, 5, 4, 3, 2, 1, 0);
            is(x.renumber(0, 1, 0), 1);
            is(x.same(0, 1), 0);
            is(x.alike(0, 1), 1);
            is(x.alike(1, 0), 1);
        });
        EDGES.edge("six ELEMENTS, as many BASES, yet not alike", x -> {
            EDGES.fill(x, 0, Edges.INTS, 1, 1, 2, 2, 4, 4);
            is(x.columns(0, 0, 0, 6), 3);
            is(x.uniform(1, 6, 3), 1);
            is(x.alike(0, 1), 0);
            EDGES.fill(x, 0, Edges.INTS, 1, 1, 1, 1, 2, 4);
            is(x.columns(1, 0, 0, 6), 3);
            is(x.alike(0, 1), 0);
            is(x.alike(1, 0), 0);
        });
        EDGES.edge("unlike in RANK of all alone", x -> {
            is(x.uniform(0, 6, 5), 1);
            is(x.uniform(1, 6, 6), 1);
            is(x.alike(0, 1), 0);
            is(x.alike(1, 0), 0);
        });
        EDGES.edge("unlike many", x -> {
            is(x.uniform(0, 6, 0), 1);
            is(x.uniform(1, 5, 0), 1);
            is(x.alike(0, 1), 0);
            is(x.alike(1, 0), 0);
            is(x.alike(2, 1), 0);
        });
    }

    private static void alikeOfMany() {
        EDGES.edge("both of seven: MUCH, alike or not, the same or not", x -> {
            is(x.uniform(0, 7, 3), 1);
            is(x.uniform(1, 7, 3), 1);
            is(x.uniform(2, 7, 4), 1);
            is(x.alike(0, 1), Edges.MUCH);
            is(x.alike(0, 2), Edges.MUCH);
            is(x.alike(0, 0), Edges.MUCH);
        });
        EDGES.edge("one of seven, the other of six or fewer: 0", x -> {
            is(x.uniform(0, 7, 3), 1);
            is(x.uniform(1, 6, 3), 1);
            is(x.alike(0, 1), 0);
            is(x.alike(1, 0), 0);
            is(x.alike(0, 3), 0);
            is(x.alike(3, 0), 0);
        });
        EDGES.edge("BAD before MUCH", x -> {
            is(x.uniform(0, 7, 3), 1);
            is(x.alike(0, 4), Edges.BAD);
            is(x.alike(-1, 0), Edges.BAD);
        });
        EDGES.leaves("v -1: BAD", Edges.BAD, x -> x.alike(-1, 0));
        EDGES.leaves("v 4: BAD", Edges.BAD, x -> x.alike(4, 0));
        EDGES.leaves("w -1: BAD", Edges.BAD, x -> x.alike(0, -1));
        EDGES.leaves("w 4: BAD", Edges.BAD, x -> x.alike(0, 4));
        EDGES.leaves("what is asked changes nothing", 1, x -> x.alike(1, 1));
        EDGES.edge("MUCH changes nothing", x -> {
            is(x.uniform(0, 7, 3), 1);
            is(x.alike(0, 0), Edges.MUCH);
            is(x.many(0, 2), 35);
        });
    }
}
