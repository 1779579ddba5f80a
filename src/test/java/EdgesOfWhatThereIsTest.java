/** Boundary cases of promises 7 to 12: rank, span, sorts, many, at, best. */
public final class EdgesOfWhatThereIsTest {
    private static final Edges EDGES = new Edges();
    private static final int[] NO_VIEWS = {-1, 4, Edges.LEAST, Edges.MOST};
    /** No sets of seven ELEMENTS. */
    private static final int[] NO_SETS = {-1, -128, 128, 255, 1 << 30, Edges.LEAST, Edges.MOST};

    /** FREE sets, BASES, CIRCUITS, FLATS, HYPERPLANES of the VIEW that mixed() makes. */
    private static final int[][] MIXED = {
        {0, 4, 8, 16, 20, 24, 32, 36, 40, 48, 52, 56, 64, 68, 72, 80, 84, 88, 96, 100, 104},
        {52, 56, 84, 88, 100, 104}, {1, 2, 12, 112}, {3, 15, 19, 31, 35, 47, 67, 79, 115, 127}, {31, 47, 79, 115}};

    private EdgesOfWhatThereIsTest() {
    }

    public static void main(String[] args) {
        rank();
        span();
        sortsOfTheEmptySet();
        sortsOfOthers();
        many();
        at();
        atBehindTheLast();
        best();
        bestThatWraps();
        bestRefused();
        EDGES.end();
    }

    private static void is(int got, int want) {
        EDGES.is(got, want);
    }

    /** VIEW 0: of seven ELEMENTS 0 and 1 are idle, 2 and 3 beside one another, 4, 5, 6 on a line; RANK 3. */
    private static void mixed(Counted x) {
        EDGES.fill(x, 0, Edges.INTS, 0, 0, 1, 1, 2, 4, 6);
        is(x.columns(0, 0, 0, 7), 3);
    }

    private static void rank() {
        EDGES.promise(7);
        EDGES.edge("the empty set: 0", x -> {
            mixed(x);
            for (int v = 0; v < 4; v++) {
                is(x.rank(v, 0), 0);
            }
        });
        EDGES.edge("all", x -> {
            mixed(x);
            is(x.rank(0, 127), 3);
            is(x.uniform(1, 7, 7), 1);
            is(x.rank(1, 127), 7);
            is(x.uniform(1, 7, 0), 1);
            is(x.rank(1, 127), 0);
        });
        EDGES.edge("one alone: idle or not", x -> {
            mixed(x);
            for (int e = 0; e < 7; e++) {
                is(x.rank(0, 1 << e), e < 2 ? 0 : 1);
            }
        });
        EDGES.edge("the highest set, and one above", x -> {
            for (int n = 0; n <= 7; n++) {
                is(x.uniform(3, n, n), 1);
                is(x.rank(3, (1 << n) - 1), n);
                is(x.rank(3, 1 << n), Edges.BAD);
            }
        });
        EDGES.edge("v is none, a set with one that is no ELEMENT: BAD", x -> {
            mixed(x);
            for (int v : NO_VIEWS) {
                is(x.rank(v, 0), Edges.BAD);
            }
            for (int set : NO_SETS) {
                is(x.rank(0, set), Edges.BAD);
            }
        });
        EDGES.leaves("an ELEMENT among others that are none: BAD", Edges.BAD, x -> x.rank(0, 17));
        EDGES.leaves("no ELEMENTS: BAD", Edges.BAD, x -> x.rank(3, 1));
        EDGES.leaves("what is asked changes nothing", 2, x -> x.rank(0, 15));
    }

    private static void span() {
        EDGES.promise(8);
        EDGES.edge("the empty set: those that are idle", x -> {
            mixed(x);
            is(x.span(0, 0), 3);
            is(x.uniform(1, 7, 7), 1);
            is(x.span(1, 0), 0);
            is(x.uniform(1, 7, 0), 1);
            is(x.span(1, 0), 127);
            is(x.span(2, 0), 0);
        });
        EDGES.edge("all span all", x -> {
            mixed(x);
            is(x.span(0, 127), 127);
            is(x.uniform(1, 7, 7), 1);
            is(x.span(1, 127), 127);
            is(x.span(1, 126), 126);
        });
        EDGES.edge("a BASE spans all, one fewer doesn't", x -> {
            mixed(x);
            is(x.span(0, 0b0110100), 127);
            is(x.span(0, 0b0110000), 0b1110011);
            is(x.span(0, 0b0000100), 0b0001111);
            is(x.uniform(1, 7, 3), 1);
            is(x.span(1, 0b1110000), 127);
            is(x.span(1, 0b1100000), 0b1100000);
        });
        EDGES.edge("v is none, a set with one that is no ELEMENT: BAD", x -> {
            mixed(x);
            for (int v : NO_VIEWS) {
                is(x.span(v, 0), Edges.BAD);
            }
            for (int set : NO_SETS) {
                is(x.span(0, set), Edges.BAD);
            }
        });
        EDGES.leaves("an ELEMENT among others that are none: BAD", Edges.BAD, x -> x.span(0, 17));
        EDGES.leaves("no ELEMENTS: BAD", Edges.BAD, x -> x.span(3, 1));
        EDGES.leaves("what is asked changes nothing", 15, x -> x.span(0, 3));
    }

    private static void sortsOfTheEmptySet() {
        EDGES.promise(9);
        EDGES.edge("no ELEMENTS: FREE, BASE, FLAT", x -> is(x.sorts(0, 0), 1 + 2 + 8));
        EDGES.edge("RANK 0: FREE and BASE, no FLAT if there are idle ones", x -> {
            is(x.uniform(0, 1, 0), 1);
            is(x.sorts(0, 0), 1 + 2);
        });
        EDGES.edge("RANK 1: a HYPERPLANE, unless there are idle ones", x -> {
            is(x.uniform(0, 7, 1), 1);
            is(x.sorts(0, 0), 1 + 8 + 16);
            EDGES.fill(x, 0, Edges.INTS, 1, 0);
            is(x.columns(0, 0, 0, 2), 1);
            is(x.sorts(0, 0), 1);
            is(x.sorts(0, 2), 4 + 8 + 16);
        });
        EDGES.edge("RANK 2: a FLAT, no HYPERPLANE", x -> {
            is(x.uniform(0, 2, 2), 1);
            is(x.sorts(0, 0), 1 + 8);
        });
    }

    private static void sortsOfOthers() {
        EDGES.edge("all: always a FLAT, never a HYPERPLANE", x -> {
            is(x.uniform(0, 7, 7), 1);
            is(x.sorts(0, 127), 1 + 2 + 8);
            is(x.uniform(0, 7, 6), 1);
            is(x.sorts(0, 127), 4 + 8);
            is(x.uniform(0, 7, 5), 1);
            is(x.sorts(0, 127), 8);
            is(x.uniform(0, 7, 0), 1);
            is(x.sorts(0, 127), 8);
        });
        EDGES.edge("one alone that is idle: a CIRCUIT", x -> {
            mixed(x);
            is(x.sorts(0, 1), 4);
            is(x.sorts(0, 2), 4);
            is(x.sorts(0, 3), 8);
            is(x.sorts(0, 4), 1);
            is(x.uniform(1, 1, 0), 1);
            is(x.sorts(1, 1), 4 + 8);
        });
        EDGES.edge("two beside one another: a CIRCUIT; with an idle one none", x -> {
            mixed(x);
            is(x.sorts(0, 0b0001100), 4);
            is(x.sorts(0, 0b0001101), 0);
            is(x.sorts(0, 0b0001111), 8);
        });
        EDGES.edge("all but one of all that are FREE: a HYPERPLANE", x -> {
            is(x.uniform(0, 7, 7), 1);
            is(x.sorts(0, 126), 1 + 8 + 16);
            is(x.sorts(0, 124), 1 + 8);
            mixed(x);
            is(x.sorts(0, 0b1110011), 8 + 16);
            is(x.sorts(0, 0b1110001), 0);
        });
        EDGES.edge("v is none, a set with one that is no ELEMENT: BAD", x -> {
            mixed(x);
            for (int v : NO_VIEWS) {
                is(x.sorts(v, 0), Edges.BAD);
            }
            for (int set : NO_SETS) {
                is(x.sorts(0, set), Edges.BAD);
            }
        });
        EDGES.leaves("an ELEMENT among others that are none: BAD", Edges.BAD, x -> x.sorts(0, 17));
        EDGES.leaves("no ELEMENTS: BAD", Edges.BAD, x -> x.sorts(3, 1));
        EDGES.leaves("what is asked changes nothing", 4, x -> x.sorts(0, 7));
    }

    private static void manyAre(Counted x, int v, int... want) {
        for (int what = 0; what < 6; what++) {
            is(x.many(v, what), want[what]);
        }
    }

    private static void many() {
        EDGES.promise(10);
        EDGES.edge("no ELEMENTS", x -> manyAre(x, 3, 0, 1, 1, 0, 1, 0));
        EDGES.edge("one ELEMENT, idle or not", x -> {
            is(x.uniform(0, 1, 0), 1);
            manyAre(x, 0, 1, 1, 1, 1, 1, 0);
            is(x.uniform(0, 1, 1), 1);
            manyAre(x, 0, 1, 2, 1, 0, 2, 1);
        });
        EDGES.edge("seven, all idle", x -> {
            is(x.uniform(0, 7, 0), 1);
            manyAre(x, 0, 7, 1, 1, 7, 1, 0);
        });
        EDGES.edge("seven, all FREE", x -> {
            is(x.uniform(0, 7, 7), 1);
            manyAre(x, 0, 7, 128, 1, 0, 128, 7);
        });
        EDGES.edge("seven, the most BASES and CIRCUITS", x -> {
            is(x.uniform(0, 7, 3), 1);
            manyAre(x, 0, 7, 64, 35, 35, 30, 21);
            is(x.uniform(0, 7, 4), 1);
            manyAre(x, 0, 7, 99, 35, 21, 65, 35);
        });
        EDGES.edge("idle ones and ones beside one another", x -> {
            mixed(x);
            manyAre(x, 0, 7, 21, 6, 4, 10, 4);
        });
        EDGES.leaves("v -1: BAD", Edges.BAD, x -> x.many(-1, 0));
        EDGES.leaves("v 4: BAD", Edges.BAD, x -> x.many(4, 0));
        EDGES.leaves("what -1: BAD", Edges.BAD, x -> x.many(0, -1));
        EDGES.leaves("what 6: BAD", Edges.BAD, x -> x.many(0, 6));
        EDGES.leaves("what least: BAD", Edges.BAD, x -> x.many(0, Edges.LEAST));
        EDGES.leaves("what is asked changes nothing", 6, x -> x.many(0, 2));
    }

    private static void at() {
        EDGES.promise(11);
        EDGES.edge("from the first, number 0, to the last, in order as numbers", x -> {
            mixed(x);
            for (int what = 1; what <= 5; what++) {
                int[] sets = MIXED[what - 1];
                for (int k = 0; k < sets.length; k++) {
                    is(x.at(0, what, k), sets[k]);
                }
                is(x.many(0, what), sets.length);
            }
        });
        EDGES.edge("number 127", x -> {
            is(x.uniform(0, 7, 7), 1);
            is(x.at(0, 1, 127), 127);
            is(x.at(0, 4, 127), 127);
            is(x.at(0, 1, 128), Edges.NONE);
        });
    }

    private static void atBehindTheLast() {
        EDGES.edge("behind the last: NONE", x -> {
            mixed(x);
            for (int what = 1; what <= 5; what++) {
                is(x.at(0, what, MIXED[what - 1].length), Edges.NONE);
                is(x.at(0, what, Edges.MOST), Edges.NONE);
            }
        });
        EDGES.edge("k below 0: NONE", x -> {
            mixed(x);
            for (int what = 1; what <= 5; what++) {
                is(x.at(0, what, -1), Edges.NONE);
                is(x.at(0, what, Edges.LEAST), Edges.NONE);
            }
        });
        EDGES.edge("there is none at all: NONE", x -> {
            is(x.at(0, 3, 0), Edges.NONE);
            is(x.at(0, 5, 0), Edges.NONE);
            is(x.uniform(0, 7, 7), 1);
            is(x.at(0, 3, 0), Edges.NONE);
            is(x.uniform(0, 7, 0), 1);
            is(x.at(0, 5, 0), Edges.NONE);
        });
        EDGES.edge("no ELEMENTS: the empty set alone", x -> {
            for (int what = 1; what <= 4; what++) {
                is(x.at(3, what, 0), what == 3 ? Edges.NONE : 0);
                is(x.at(3, what, 1), Edges.NONE);
            }
        });
        EDGES.leaves("v -1: BAD", Edges.BAD, x -> x.at(-1, 1, 0));
        EDGES.leaves("v 4: BAD", Edges.BAD, x -> x.at(4, 1, 0));
        EDGES.leaves("what 0: BAD", Edges.BAD, x -> x.at(0, 0, 0));
        EDGES.leaves("what 6: BAD", Edges.BAD, x -> x.at(0, 6, 0));
        EDGES.leaves("what -1: BAD", Edges.BAD, x -> x.at(0, -1, 0));
        EDGES.leaves("BAD before NONE", Edges.BAD, x -> x.at(0, 0, -1));
        EDGES.leaves("NONE changes nothing", Edges.NONE, x -> x.at(0, 2, 6));
        EDGES.leaves("what is asked changes nothing", 12, x -> x.at(0, 2, 5));
    }

    private static void best() {
        EDGES.promise(12);
        EDGES.edge("no ELEMENTS: the empty set, of weight 0", x -> {
            EDGES.fill(x, 0, Edges.INTS, 9, 9);
            is(x.best(0, 0, 0), 0);
            is(x.best(0, 0, 1), 0);
        });
        EDGES.edge("RANK 0: likewise", x -> {
            EDGES.fill(x, 0, Edges.INTS, 9, 9, -9);
            is(x.uniform(0, 3, 0), 1);
            is(x.best(0, 0, 0), 0);
            is(x.best(0, 0, 1), 0);
        });
        EDGES.edge("all are FREE: all", x -> {
            EDGES.fill(x, 0, Edges.INTS, -1, -2, -4, -8, -16, -32, -64);
            is(x.uniform(0, 7, 7), 1);
            is(x.best(0, 0, 0), 127);
            is(x.best(0, 0, 1), -127);
        });
        EDGES.edge("a SHEET of no numbers: all weigh 0, the least", x -> {
            is(x.sheet(0, Edges.INTS, 0), 1);
            is(x.uniform(0, 7, 3), 1);
            is(x.best(0, 0, 0), 7);
            is(x.best(0, 0, 1), 0);
        });
        EDGES.edge("those that lack weigh 0, which may be most", x -> {
            EDGES.fill(x, 0, Edges.INTS, -1, 0, -1);
            is(x.uniform(0, 5, 2), 1);
            is(x.best(0, 0, 0), 0b01010);
            is(x.best(0, 0, 1), 0);
        });
        EDGES.edge("weights behind the ELEMENTS don't count", x -> {
            EDGES.fill(x, 0, Edges.INTS, 1, 2, 1, 50, 50, 50, 50, 50, 50);
            is(x.uniform(0, 3, 1), 1);
            is(x.best(0, 0, 0), 2);
            is(x.best(0, 0, 1), 2);
        });
        EDGES.edge("of like ones the least, though another has the heaviest ELEMENT", x -> {
            EDGES.fill(x, 0, Edges.INTS, 2, 2, 1, 3);
            is(x.uniform(0, 4, 1), 1);
            is(x.best(0, 0, 0), 8);
            EDGES.fill(x, 0, Edges.INTS, 3, 1, 1, 0);
            is(x.uniform(0, 4, 2), 1);
            is(x.best(0, 0, 0), 0b0011);
            EDGES.fill(x, 0, Edges.INTS, 1, 1, 1, 1);
            is(x.best(0, 0, 0), 3);
            is(x.best(0, 0, 1), 2);
        });
        EDGES.edge("what isn't FREE is no BASE, whatever it weighs", x -> {
            mixed(x);
            EDGES.fill(x, 0, Edges.INTS, 100, 100, 5, 5, 3, 2, 1);
            is(x.best(0, 0, 0), 0b0110100);
            is(x.best(0, 0, 1), 10);
            EDGES.fill(x, 0, Edges.INTS, 100, 100, 5, 6, 1, 2, 3);
            is(x.best(0, 0, 0), 0b1101000);
            is(x.best(0, 0, 1), 11);
        });
    }

    private static void bestThatWraps() {
        EDGES.edge("most and 1 wrap to the least", x -> {
            EDGES.fill(x, 0, Edges.INTS, Edges.MOST, 1);
            is(x.uniform(0, 2, 2), 1);
            is(x.best(0, 0, 1), Edges.LEAST);
            is(x.uniform(0, 3, 2), 1);
            is(x.best(0, 0, 0), 0b101);
            is(x.best(0, 0, 1), Edges.MOST);
        });
        EDGES.edge("least and -1 wrap to the most", x -> {
            EDGES.fill(x, 0, Edges.INTS, Edges.LEAST, -1, 5);
            is(x.uniform(0, 3, 2), 1);
            is(x.best(0, 0, 0), 0b011);
            is(x.best(0, 0, 1), Edges.MOST);
        });
        EDGES.edge("seven times most", x -> {
            is(x.sheet(0, Edges.INTS, 7), 1);
            for (int e = 0; e < 7; e++) {
                is(x.write(0, e, Edges.MOST), 1);
            }
            is(x.uniform(0, 7, 7), 1);
            is(x.best(0, 0, 1), Edges.MOST - 6);
        });
        EDGES.edge("twice the least is 0", x -> {
            EDGES.fill(x, 0, Edges.INTS, Edges.LEAST, Edges.LEAST, -1);
            is(x.uniform(0, 3, 2), 1);
            is(x.best(0, 0, 0), 0b101);
            is(x.write(0, 2, 0), 1);
            is(x.best(0, 0, 0), 0b011);
            is(x.best(0, 0, 1), 0);
        });
        EDGES.edge("all weigh the least", x -> {
            EDGES.fill(x, 0, Edges.INTS, Edges.LEAST, Edges.LEAST, Edges.LEAST);
            is(x.uniform(0, 3, 1), 1);
            is(x.best(0, 0, 0), 1);
            is(x.best(0, 0, 1), Edges.LEAST);
        });
        EDGES.edge("most beside the least", x -> {
            EDGES.fill(x, 0, Edges.INTS, Edges.LEAST, Edges.MOST);
            is(x.uniform(0, 2, 1), 1);
            is(x.best(0, 0, 0), 2);
            is(x.best(0, 0, 1), Edges.MOST);
        });
        EDGES.edge("bytes weigh from -128 to 127, and don't wrap as bytes", x -> {
            EDGES.fill(x, 0, Edges.BYTES, 127, 127, 128, 255);
            is(x.uniform(0, 4, 2), 1);
            is(x.best(0, 0, 0), 3);
            is(x.best(0, 0, 1), 254);
            is(x.uniform(0, 4, 4), 1);
            is(x.best(0, 0, 1), 125);
        });
    }

    private static void bestRefused() {
        EDGES.leaves("v -1: BAD", Edges.BAD, x -> x.best(-1, 0, 0));
        EDGES.leaves("v 4: BAD", Edges.BAD, x -> x.best(4, 0, 0));
        EDGES.leaves("s -1: BAD", Edges.BAD, x -> x.best(0, -1, 0));
        EDGES.leaves("s 4: BAD", Edges.BAD, x -> x.best(0, 4, 0));
        EDGES.leaves("what -1: BAD", Edges.BAD, x -> x.best(0, 0, -1));
        EDGES.leaves("what 2: BAD", Edges.BAD, x -> x.best(0, 0, 2));
        EDGES.leaves("BAD before -11", Edges.BAD, x -> x.best(0, 3, 2));
        EDGES.leaves("missing: -11", Edges.NOTHING, x -> x.best(0, 3, 0));
        EDGES.leaves("missing: -11, of no ELEMENTS too", Edges.NOTHING, x -> x.best(3, 3, 1));
        EDGES.leaves("what is asked changes nothing", 5, x -> x.best(0, 0, 1));
    }
}
