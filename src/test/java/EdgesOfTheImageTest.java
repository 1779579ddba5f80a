/** Boundary cases of promises 34 to 36: image, back, count. */
public final class EdgesOfTheImageTest {
    private static final Edges EDGES = new Edges();

    private EdgesOfTheImageTest() {
    }

    public static void main(String[] args) {
        image();
        back();
        backAndOthers();
        count();
        countRefused();
        EDGES.end();
    }

    private static void is(int got, int want) {
        EDGES.is(got, want);
    }

    private static void image() {
        EDGES.promise(34);
        EDGES.edge("no ELEMENTS at all: 0, and there is one", x -> {
            is(x.image(), 0);
            is(x.back(), 0);
        });
        EDGES.edge("all VIEWS of seven: 28", x -> {
            for (int v = 0; v < 4; v++) {
                is(x.uniform(v, 7, v), 1);
            }
            is(x.image(), 28);
            for (int v = 0; v < 4; v++) {
                is(x.uniform(v, 0, 0), 1);
            }
            is(x.back(), 28);
            for (int v = 0; v < 4; v++) {
                is(x.many(v, 0), 7);
                is(x.rank(v, 127), v);
            }
        });
        EDGES.edge("a later one instead of an earlier one", x -> {
            is(x.uniform(0, 5, 2), 1);
            is(x.image(), 5);
            is(x.uniform(0, 3, 3), 1);
            is(x.seed(8), 1);
            is(x.image(), 3);
            is(x.seed(9), 8);
            is(x.uniform(0, 6, 6), 1);
            is(x.back(), 3);
            EDGES.uniform(x, 0, 3, 3);
            is(x.count(1), 8);
        });
        EDGES.edge("it doesn't follow VIEWS", x -> {
            is(x.uniform(0, 5, 2), 1);
            is(x.image(), 5);
            is(x.dual(0, 0), 3);
            is(x.minor(0, 0, 1, 0), 4);
            is(x.back(), 5);
            EDGES.uniform(x, 0, 5, 2);
        });
        EDGES.edge("what is there stays as it is", x -> {
            is(x.uniform(0, 5, 2), 1);
            is(x.image(), 5);
            EDGES.uniform(x, 0, 5, 2);
            is(x.count(1), 1);
        });
    }

    private static void back() {
        EDGES.promise(35);
        EDGES.edge("there is none: STATE, and nothing changes", x -> {
            is(x.uniform(0, 5, 2), 1);
            is(x.seed(7), 1);
            is(x.back(), Edges.STATE);
            EDGES.uniform(x, 0, 5, 2);
            is(x.count(1), 7);
            is(x.back(), Edges.STATE);
        });
        EDGES.edge("it stays: back again and again", x -> {
            is(x.uniform(3, 4, 1), 1);
            is(x.seed(-5), 1);
            is(x.image(), 4);
            for (int round = 0; round < 3; round++) {
                is(x.uniform(3, 7, round), 1);
                is(x.uniform(round, 2, 2), 1);
                x.deal(1, 1, 3, 3);
                is(x.back(), 4);
                EDGES.uniform(x, 3, 4, 1);
                is(x.count(0), 4);
                is(x.count(1), -5);
            }
        });
        EDGES.edge("it doesn't follow what comes after back", x -> {
            is(x.uniform(0, 4, 1), 1);
            is(x.image(), 4);
            is(x.back(), 4);
            is(x.dual(0, 0), 3);
            is(x.back(), 4);
            EDGES.uniform(x, 0, 4, 1);
        });
        EDGES.edge("z as it was then: least, and draws go on alike", x -> {
            is(x.seed(Edges.LEAST), 1);
            is(x.image(), 0);
            x.deal(0, 2, 7, 4);
            is(x.hold(0, 1, 0), 1);
            int z = x.count(1);
            is(x.back(), 0);
            is(x.count(1), Edges.LEAST);
            x.deal(1, 2, 7, 4);
            is(x.take(0, 0), 7);
            is(x.same(0, 1), 1);
            is(x.count(1), z);
        });
    }

    private static void backAndOthers() {
        EDGES.edge("HOLDS aren't kept: filled, emptied, changed ones stay so", x -> {
            is(x.hold(0, 0, 0), 1);
            is(x.uniform(0, 3, 1), 1);
            is(x.hold(1, 1, 0), 1);
            is(x.image(), 3);
            is(x.hold(0, 2, 0), 1);
            is(x.uniform(0, 6, 2), 1);
            is(x.hold(1, 1, 0), 1);
            is(x.hold(2, 0, 2), 1);
            is(x.back(), 3);
            is(x.held(0, 0), Edges.NOTHING);
            is(x.held(1, 2), 6);
            is(x.held(2, 0), 5);
        });
        EDGES.edge("SHEETS aren't kept: filled, missing, changed ones stay so", x -> {
            EDGES.fill(x, 0, Edges.INTS, 1);
            EDGES.fill(x, 1, Edges.INTS, 1);
            is(x.image(), 0);
            is(x.sheet(0, -1, 0), 1);
            is(x.write(1, 0, 2), 1);
            is(x.sheet(2, Edges.BYTES, 1), 1);
            is(x.back(), 0);
            is(x.item(0, 0), Edges.NOTHING);
            is(x.item(1, 0), 2);
            is(x.item(2, 0), 0);
        });
        EDGES.edge("CAUSE isn't kept", x -> {
            EDGES.fill(x, 0, Edges.INTS, 3, 12);
            is(x.tell(0, 0, 4), Edges.STATE);
            is(x.image(), 0);
            is(x.write(0, 1, 3), 1);
            is(x.tell(0, 0, 4), 2);
            is(x.back(), 0);
            EDGES.cause(x, 0, -1, -1, -1);
        });
    }

    private static void count() {
        EDGES.promise(36);
        EDGES.edge("a new object: 0, 1, 0, 0", x -> {
            is(x.count(0), 0);
            is(x.count(1), 1);
            is(x.count(2), 0);
            is(x.count(3), 0);
        });
        EDGES.edge("all there can be: 28 ELEMENTS, 4 HOLDS, 4 SHEETS", x -> {
            for (int k = 0; k < 4; k++) {
                is(x.uniform(k, 7, 7), 1);
                is(x.hold(k, k % 2, k), 1);
                is(x.sheet(k, k % 2, k), 1);
                is(x.count(0), 7 * (k + 1));
                is(x.count(2), k + 1);
                is(x.count(3), k + 1);
            }
        });
        EDGES.edge("and down to none again", x -> {
            for (int k = 0; k < 4; k++) {
                is(x.uniform(k, 1, 0), 1);
                is(x.hold(k, 0, k), 1);
                is(x.sheet(k, 1, 0), 1);
            }
            for (int k = 0; k < 4; k++) {
                is(x.uniform(k, 0, 0), 1);
                is(x.hold(k, 2, 0), 1);
                is(x.sheet(k, -1, 0), 1);
                is(x.count(0), 3 - k);
                is(x.count(2), 3 - k);
                is(x.count(3), 3 - k);
            }
        });
        EDGES.edge("z least, most", x -> {
            is(x.seed(Edges.LEAST), 1);
            is(x.count(1), Edges.LEAST);
            is(x.seed(Edges.MOST), Edges.LEAST);
            is(x.count(1), Edges.MOST);
        });
        EDGES.edge("the same thing twice counts once", x -> {
            is(x.hold(0, 0, 1), 1);
            is(x.hold(0, 1, 1), 1);
            is(x.sheet(0, 0, 9), 1);
            is(x.sheet(0, 1, 9), 1);
            is(x.count(2), 1);
            is(x.count(3), 1);
        });
    }

    private static void countRefused() {
        EDGES.leaves("what -1: BAD", Edges.BAD, x -> x.count(-1));
        EDGES.leaves("what 4: BAD", Edges.BAD, x -> x.count(4));
        EDGES.leaves("what least: BAD", Edges.BAD, x -> x.count(Edges.LEAST));
        EDGES.leaves("what most: BAD", Edges.BAD, x -> x.count(Edges.MOST));
        EDGES.leaves("what is asked changes nothing", 12, x -> x.count(0));
        EDGES.leaves("what is asked changes nothing, of z", 777, x -> x.count(1));
        EDGES.leaves("what is asked changes nothing, of HOLDS", 3, x -> x.count(2));
        EDGES.leaves("what is asked changes nothing, of SHEETS", 3, x -> x.count(3));
    }
}
