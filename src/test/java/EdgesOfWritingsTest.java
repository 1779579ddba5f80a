/** Boundary cases of promises 19 to 25: writings, writes, clash, excluded, seed, deal, chance. */
public final class EdgesOfWritingsTest {
    private static final Edges EDGES = new Edges();
    private static final int[] SEVEN_POINTS = {1, 2, 4, 3, 5, 6, 7};

    private EdgesOfWritingsTest() {
    }

    public static void main(String[] args) {
        writings();
        writingsOfMany();
        writes();
        writesOfIdleOnes();
        writesRefused();
        clash();
        excludedForTwo();
        excludedForThree();
        excludedRefused();
        seed();
        deal();
        dealByHand();
        dealRefused();
        chance();
        chanceRefused();
        EDGES.end();
    }

    private static void is(int got, int want) {
        EDGES.is(got, want);
    }

    private static void writingsAre(Counted x, int v, int... want) {
        for (int field = 0; field < 4; field++) {
            is(x.writings(v, field), want[field]);
        }
    }

    private static void writings() {
        EDGES.promise(19);
        EDGES.edge("no ELEMENTS: one", x -> writingsAre(x, 0, 1, 1, 1, 1));
        EDGES.edge("one ELEMENT: one", x -> {
            is(x.uniform(0, 1, 0), 1);
            writingsAre(x, 0, 1, 1, 1, 1);
            is(x.uniform(0, 1, 1), 1);
            writingsAre(x, 0, 1, 1, 1, 1);
        });
        EDGES.edge("seven, idle, FREE, of RANK 1, of RANK 6: one", x -> {
            int[] ranks = {0, 7, 1, 6};
            for (int rank : ranks) {
                is(x.uniform(0, 7, rank), 1);
                writingsAre(x, 0, 1, 1, 1, 1);
            }
        });
        EDGES.edge("a line of as many as SIZE and 1 can be, of one more can't", x -> {
            for (int field = 0; field < 4; field++) {
                int size = Edges.SIZES[field];
                int ways = 1;
                for (int number = 2; number < size; number++) {
                    ways *= size - number;
                }
                is(x.uniform(0, size + 1, 2), 1);
                is(x.writings(0, field), ways);
                is(x.dual(0, 0), size - 1);
                is(x.writings(0, field), ways);
                if (size < 6) {
                    is(x.uniform(0, size + 2, 2), 1);
                    is(x.writings(0, field), 0);
                    is(x.dual(0, 0), size);
                    is(x.writings(0, field), 0);
                }
            }
        });
        EDGES.edge("three and four on a line", x -> {
            is(x.uniform(0, 3, 2), 1);
            writingsAre(x, 0, 1, 1, 1, 1);
            is(x.uniform(0, 4, 2), 1);
            writingsAre(x, 0, 0, 1, 3, 2);
        });
    }

    private static void writingsOfMany() {
        EDGES.edge("two parts that aren't joined", x -> {
            // 0 to 3 are four on a line, 4 to 6 three of RANK 1
            EDGES.fill(x, 0, Edges.INTS, 1, 5, 6, 11, 25, 25, 25);
            is(x.columns(0, 2, 0, 7), 3);
            writingsAre(x, 0, 0, 1, 3, 2);
        });
        EDGES.edge("idle ones and ones beside one another add none", x -> {
            EDGES.fill(x, 0, Edges.INTS, 0, 1, 2, 5, 6, 11, 0);
            is(x.columns(0, 2, 0, 7), 2);
            writingsAre(x, 0, 0, 1, 3, 2);
        });
        EDGES.edge("seven in a plane, no three on a line: none", x -> {
            is(x.uniform(0, 7, 3), 1);
            writingsAre(x, 0, 0, 0, 0, 0);
            is(x.uniform(0, 7, 4), 1);
            writingsAre(x, 0, 0, 0, 0, 0);
        });
        EDGES.edge("six in a plane, no three on a line", x -> {
            is(x.uniform(0, 6, 3), 1);
            writingsAre(x, 0, 0, 0, 6, 2);
        });
        EDGES.edge("seven points, each two on a line of three", x -> {
            EDGES.fill(x, 0, Edges.INTS, SEVEN_POINTS);
            is(x.columns(0, 0, 0, 7), 3);
            writingsAre(x, 0, 1, 0, 0, 1);
        });
        EDGES.edge("larger ones asked before leave no trace", x -> {
            EDGES.fill(x, 0, Edges.INTS, 1, 5, 25, 6, 11);
            is(x.columns(1, 2, 0, 5), 3);
            EDGES.fill(x, 0, Edges.INTS, 1, 25, 5, 6, 11);
            is(x.columns(2, 2, 0, 5), 3);
            for (int n = 7; n >= 4; n--) {
                for (int rank = 2; rank < n; rank++) {
                    is(x.uniform(0, n, rank), 1);
                    x.writings(0, 1);
                    writingsAre(x, 1, 0, 1, 3, 2);
                    x.writings(0, 1);
                    writingsAre(x, 2, 0, 1, 3, 2);
                }
            }
        });
        EDGES.edge("it asks for RANKS of all sets, not of those beside BASE alone", x -> {
            is(x.uniform(0, 5, 3), 1);
            is(x.writings(0, 0), 0);
            is(x.writings(0, 1), 0);
            is(x.writings(0, 3), 2);
            is(x.writings(0, 2), 6);
        });
        EDGES.leaves("v -1: BAD", Edges.BAD, x -> x.writings(-1, 0));
        EDGES.leaves("v 4: BAD", Edges.BAD, x -> x.writings(4, 0));
        EDGES.leaves("FIELD -1: BAD", Edges.BAD, x -> x.writings(0, -1));
        EDGES.leaves("FIELD 4: BAD", Edges.BAD, x -> x.writings(0, 4));
        EDGES.leaves("extremes: BAD", Edges.BAD, x -> x.writings(Edges.MOST, Edges.LEAST));
        EDGES.leaves("none is 0, and changes nothing", 0, x -> x.writings(0, 0));
        EDGES.leaves("what is asked changes nothing", 3, x -> x.writings(0, 2));
    }

    private static void writes() {
        EDGES.promise(20);
        EDGES.edge("the last number is the least that can be", x -> {
            is(x.uniform(0, 4, 2), 1);
            is(x.writes(0, 1, 0), 4);
            EDGES.row(x, 0, 1, 3, 4, 7);
            is(x.writes(0, 2, 0), 4);
            EDGES.row(x, 0, 1, 5, 6, 11);
            is(x.writes(0, 3, 0), 4);
            EDGES.row(x, 0, 1, 4, 5, 9);
        });
        EDGES.edge("all numbers of the FIELD are in use", x -> {
            is(x.uniform(0, 6, 2), 1);
            is(x.writes(0, 2, 0), 6);
            EDGES.row(x, 0, 1, 5, 6, 11, 16, 21);
            is(x.uniform(0, 5, 2), 1);
            is(x.writes(0, 3, 0), 5);
            EDGES.row(x, 0, 1, 4, 5, 9, 13);
        });
        EDGES.edge("a place joins if its ROW or its COLUMN has none before", x -> {
            // BASE 0 1 2, then 1 1 0, 0 1 1, 1 0 2 over THREE: the last place of all alone is free
            EDGES.fill(x, 0, Edges.INTS, 1, 3, 9, 1 + 3, 3 + 9, 1 + 2 * 9);
            is(x.columns(0, 1, 0, 6), 3);
            is(x.writings(0, 1), 1);
            is(x.writes(0, 1, 1), 6);
            EDGES.row(x, 1, 1, 3, 9, 4, 12, 19);
            EDGES.fill(x, 0, Edges.INTS, 1, 3, 9, 1 + 3, 3 + 9, 1 + 9);
            is(x.columns(0, 1, 0, 6), 3);
            is(x.writes(0, 1, 1), 6);
            EDGES.row(x, 1, 1, 3, 9, 4, 12, 10);
        });
        EDGES.edge("BASE is the first one, wherever its ELEMENTS are", x -> {
            EDGES.fill(x, 0, Edges.INTS, 0, 0, 5, 5, 1, 1, 6);
            is(x.columns(0, 2, 0, 7), 2);
            is(x.writes(0, 2, 0), 7);
            EDGES.row(x, 0, 0, 0, 1, 1, 5, 5, 6);
        });
        EDGES.edge("as the VIEW again", x -> {
            for (int field = 0; field < 4; field++) {
                x.seed(field + 5);
                int rank = x.deal(0, field, 7, 4);
                is(x.writes(0, field, 0), 7);
                is(x.columns(1, field, 0, 7), rank);
                is(x.same(0, 1), 1);
            }
        });
    }

    private static void writesOfIdleOnes() {
        EDGES.edge("no ELEMENTS: a row of none, no missing one", x -> {
            EDGES.fill(x, 1, Edges.BYTES, 1, 2);
            is(x.writes(0, 0, 0), 0);
            is(x.writes(0, 3, 1), 0);
            EDGES.row(x, 0);
            EDGES.row(x, 1);
            is(x.count(3), 2);
        });
        EDGES.edge("seven idle ones: all 0", x -> {
            is(x.uniform(0, 7, 0), 1);
            EDGES.fill(x, 1, Edges.INTS, 9, 9, 9, 9, 9, 9, 9, 9, 9);
            is(x.writes(0, 2, 1), 7);
            EDGES.row(x, 1, 0, 0, 0, 0, 0, 0, 0);
        });
        EDGES.edge("seven FREE ones: each with its ROW", x -> {
            is(x.uniform(0, 7, 7), 1);
            for (int field = 0; field < 4; field++) {
                is(x.writes(0, field, field), 7);
                for (int e = 0, unit = 1; e < 7; e++, unit *= Edges.SIZES[field]) {
                    is(x.item(field, e), unit);
                }
            }
        });
        EDGES.edge("seven of RANK 1: all 1", x -> {
            is(x.uniform(0, 7, 1), 1);
            is(x.writes(0, 2, 0), 7);
            EDGES.row(x, 0, 1, 1, 1, 1, 1, 1, 1);
        });
        EDGES.edge("a longer SHEET becomes as long as there are ELEMENTS, a shorter one too", x -> {
            is(x.uniform(0, 2, 2), 1);
            is(x.sheet(0, Edges.INTS, 64), 1);
            is(x.writes(0, 0, 0), 2);
            EDGES.row(x, 0, 1, 2);
            is(x.sheet(0, Edges.INTS, 1), 1);
            is(x.writes(0, 0, 0), 2);
            EDGES.row(x, 0, 1, 2);
        });
        EDGES.edge("a row of bytes becomes one of ints", x -> {
            is(x.uniform(0, 7, 7), 1);
            is(x.sheet(0, Edges.BYTES, 7), 1);
            is(x.writes(0, 2, 0), 7);
            is(x.item(0, 6), 15625);
            is(x.write(0, 0, Edges.LEAST), 1);
            is(x.item(0, 0), Edges.LEAST);
        });
        EDGES.edge("the VIEW stays", x -> {
            is(x.uniform(0, 4, 2), 1);
            is(x.writes(0, 1, 0), 4);
            EDGES.uniform(x, 0, 4, 2);
        });
    }

    private static void writesRefused() {
        EDGES.leaves("none: NONE, the SHEET stays", Edges.NONE, x -> x.writes(0, 0, 0));
        EDGES.leaves("none: NONE, the row of bytes stays", Edges.NONE, x -> x.writes(0, 0, 1));
        EDGES.leaves("none: NONE, what is missing stays so", Edges.NONE, x -> x.writes(0, 0, 3));
        EDGES.leaves("v -1: BAD", Edges.BAD, x -> x.writes(-1, 0, 0));
        EDGES.leaves("v 4: BAD", Edges.BAD, x -> x.writes(4, 0, 0));
        EDGES.leaves("FIELD -1: BAD", Edges.BAD, x -> x.writes(1, -1, 0));
        EDGES.leaves("FIELD 4: BAD", Edges.BAD, x -> x.writes(1, 4, 0));
        EDGES.leaves("s -1: BAD", Edges.BAD, x -> x.writes(1, 0, -1));
        EDGES.leaves("s 4: BAD", Edges.BAD, x -> x.writes(1, 0, 4));
        EDGES.leaves("BAD before NONE", Edges.BAD, x -> x.writes(0, 0, 4));
    }

    private static void clash() {
        EDGES.promise(21);
        EDGES.edge("what can be over TWO: NONE", x -> {
            is(x.clash(0), Edges.NONE);
            is(x.uniform(0, 7, 7), 1);
            is(x.clash(0), Edges.NONE);
            is(x.uniform(0, 7, 0), 1);
            is(x.clash(0), Edges.NONE);
            is(x.uniform(0, 7, 6), 1);
            is(x.clash(0), Edges.NONE);
            EDGES.fill(x, 0, Edges.INTS, SEVEN_POINTS);
            is(x.columns(0, 0, 0, 7), 3);
            is(x.clash(0), Edges.NONE);
        });
        EDGES.edge("the least as a number", x -> {
            is(x.uniform(0, 4, 2), 1);
            is(x.clash(0), 0b1100);
            is(x.uniform(0, 7, 2), 1);
            is(x.clash(0), 0b0001100);
            is(x.uniform(0, 7, 5), 1);
            is(x.clash(0), 0b1100000);
        });
        EDGES.edge("the RANK by them is too high, at the highest line", x -> {
            // over THREE 0 1 3, 0 2 4, 1 2 5 and 3 4 5 are lines
            EDGES.fill(x, 0, Edges.INTS, 1, 3, 9, 1 + 3, 1 + 9, 3 + 2 * 9);
            is(x.columns(0, 1, 0, 6), 3);
            is(x.clash(0), Edges.NONE);
            // 3 4 5 isn't one here, as it would be over TWO
            EDGES.fill(x, 0, Edges.INTS, 1, 3, 9, 1 + 3, 1 + 9, 3 + 9);
            is(x.columns(0, 1, 0, 6), 3);
            is(x.clash(0), 0b111000);
        });
        EDGES.leaves("v -1: BAD", Edges.BAD, x -> x.clash(-1));
        EDGES.leaves("v 4: BAD", Edges.BAD, x -> x.clash(4));
        EDGES.leaves("NONE changes nothing", Edges.NONE, x -> x.clash(1));
        EDGES.leaves("what is asked changes nothing", 12, x -> x.clash(0));
    }

    private static void excludedIs(Counted x, int v, int field, int sort, int into, int gone) {
        is(x.excluded(v, field, 0), sort);
        is(x.excluded(v, field, 1), into);
        is(x.excluded(v, field, 2), gone);
    }

    private static void noneIsExcluded(Counted x, int v, int field) {
        excludedIs(x, v, field, Edges.NONE, Edges.NONE, Edges.NONE);
    }

    private static void excludedForTwo() {
        EDGES.promise(22);
        EDGES.edge("too few ELEMENTS", x -> {
            noneIsExcluded(x, 0, 0);
            is(x.uniform(0, 3, 2), 1);
            noneIsExcluded(x, 0, 0);
        });
        EDGES.edge("just four ELEMENTS: all twos are BASES, or not", x -> {
            for (int rank = 0; rank <= 4; rank++) {
                is(x.uniform(0, 4, rank), 1);
                if (rank == 2) {
                    excludedIs(x, 0, 0, 0, 0, 0);
                } else {
                    noneIsExcluded(x, 0, 0);
                }
            }
            EDGES.fill(x, 0, Edges.INTS, 1, 2, 3, 1);
            is(x.columns(0, 0, 0, 4), 2);
            noneIsExcluded(x, 0, 0);
        });
        EDGES.edge("the lowest is idle, the highest is", x -> {
            EDGES.fill(x, 0, Edges.INTS, 0, 1, 5, 6, 11);
            is(x.columns(0, 2, 0, 5), 2);
            excludedIs(x, 0, 0, 0, 0, 1);
            EDGES.fill(x, 0, Edges.INTS, 1, 5, 6, 11, 0);
            is(x.columns(0, 2, 0, 5), 2);
            excludedIs(x, 0, 0, 0, 0, 16);
        });
        EDGES.edge("seven: the least x, then the least y", x -> {
            is(x.uniform(0, 7, 2), 1);
            excludedIs(x, 0, 0, 0, 0, 0b0000111);
            is(x.uniform(0, 7, 3), 1);
            excludedIs(x, 0, 0, 0, 0b0000001, 0b0000110);
            is(x.uniform(0, 7, 4), 1);
            excludedIs(x, 0, 0, 0, 0b0000011, 0b0000100);
            is(x.uniform(0, 7, 5), 1);
            excludedIs(x, 0, 0, 0, 0b0000111, 0);
            is(x.uniform(0, 7, 6), 1);
            noneIsExcluded(x, 0, 0);
            is(x.uniform(0, 7, 1), 1);
            noneIsExcluded(x, 0, 0);
        });
        EDGES.edge("no ELEMENT below 3 can be gone into, nor below 4 for THREE", x -> {
            EDGES.fill(x, 0, Edges.INTS, 40, 8, 16, 180, 5, 588, 363);
            is(x.columns(0, 3, 0, 7), 5);
            excludedIs(x, 0, 0, 0, 0b0111000, 0);
            EDGES.fill(x, 0, Edges.INTS, 1770, 2625, 1, 1009, 817, 1895, 450);
            is(x.columns(0, 2, 0, 7), 5);
            excludedIs(x, 0, 1, 2, 0b0110000, 0);
        });
    }

    private static void excludedForThree() {
        EDGES.edge("too few ELEMENTS", x -> {
            noneIsExcluded(x, 0, 1);
            is(x.uniform(0, 4, 2), 1);
            noneIsExcluded(x, 0, 1);
        });
        EDGES.edge("just five ELEMENTS", x -> {
            int[] sorts = {-1, -1, 1, 2, -1, -1};
            for (int rank = 0; rank <= 5; rank++) {
                is(x.uniform(0, 5, rank), 1);
                if (sorts[rank] < 0) {
                    noneIsExcluded(x, 0, 1);
                } else {
                    excludedIs(x, 0, 1, sorts[rank], 0, 0);
                }
            }
        });
        EDGES.edge("six ELEMENTS: the least x, then the least y", x -> {
            is(x.uniform(0, 6, 2), 1);
            excludedIs(x, 0, 1, 1, 0, 1);
            is(x.uniform(0, 6, 3), 1);
            excludedIs(x, 0, 1, 2, 0, 1);
            is(x.uniform(0, 6, 4), 1);
            excludedIs(x, 0, 1, 2, 1, 0);
            is(x.uniform(0, 6, 5), 1);
            noneIsExcluded(x, 0, 1);
        });
        EDGES.edge("seven ELEMENTS: the least x, then the least y", x -> {
            is(x.uniform(0, 7, 2), 1);
            excludedIs(x, 0, 1, 1, 0, 0b0000011);
            is(x.uniform(0, 7, 3), 1);
            excludedIs(x, 0, 1, 2, 0, 0b0000011);
            is(x.uniform(0, 7, 4), 1);
            excludedIs(x, 0, 1, 2, 0b0000001, 0b0000010);
            is(x.uniform(0, 7, 5), 1);
            excludedIs(x, 0, 1, 2, 0b0000011, 0);
            is(x.uniform(0, 7, 6), 1);
            noneIsExcluded(x, 0, 1);
        });
        EDGES.edge("the highest are idle", x -> {
            EDGES.fill(x, 0, Edges.INTS, 1, 5, 6, 11, 16, 0, 0);
            is(x.columns(0, 2, 0, 7), 2);
            excludedIs(x, 0, 1, 1, 0, 0b1100000);
        });
        EDGES.edge("seven points, each two on a line of three; and their DUAL", x -> {
            EDGES.fill(x, 0, Edges.INTS, SEVEN_POINTS);
            is(x.columns(0, 0, 0, 7), 3);
            excludedIs(x, 0, 1, 3, 0, 0);
            noneIsExcluded(x, 0, 0);
            is(x.dual(0, 1), 4);
            excludedIs(x, 1, 1, 4, 0, 0);
            noneIsExcluded(x, 1, 0);
        });
        EDGES.edge("seven, RANK 3, two of them beside one another: none of sort 3", x -> {
            EDGES.fill(x, 0, Edges.INTS, 1, 2, 4, 3, 5, 6, 6);
            is(x.columns(0, 0, 0, 7), 3);
            noneIsExcluded(x, 0, 1);
        });
        EDGES.edge("one line of three fewer: none of sort 3", x -> {
            EDGES.fill(x, 0, Edges.INTS, 1, 3, 9, 4, 10, 12, 13);
            is(x.columns(0, 1, 0, 7), 3);
            is(x.many(0, 2), 29);
            noneIsExcluded(x, 0, 1);
            excludedIs(x, 0, 0, 0, 0b0001000, 0b0000101);
        });
    }

    private static void excludedRefused() {
        EDGES.leaves("v -1: BAD", Edges.BAD, x -> x.excluded(-1, 0, 0));
        EDGES.leaves("v 4: BAD", Edges.BAD, x -> x.excluded(4, 0, 0));
        EDGES.leaves("FIELD -1: BAD", Edges.BAD, x -> x.excluded(0, -1, 0));
        EDGES.leaves("FIVE is none here: BAD", Edges.BAD, x -> x.excluded(0, 2, 0));
        EDGES.leaves("FOUR is none here: BAD", Edges.BAD, x -> x.excluded(0, 3, 0));
        EDGES.leaves("what -1: BAD", Edges.BAD, x -> x.excluded(0, 0, -1));
        EDGES.leaves("what 3: BAD", Edges.BAD, x -> x.excluded(0, 0, 3));
        EDGES.leaves("BAD before NONE", Edges.BAD, x -> x.excluded(3, 0, 3));
        EDGES.leaves("NONE changes nothing", Edges.NONE, x -> x.excluded(0, 1, 0));
        EDGES.leaves("what is asked changes nothing", 0, x -> x.excluded(0, 0, 0));
    }

    private static void seed() {
        EDGES.promise(23);
        EDGES.edge("the first answers 1", x -> is(x.seed(5), 1));
        EDGES.edge("it answers what z was, not what it becomes", x -> {
            is(x.seed(5), 1);
            is(x.seed(6), 5);
            is(x.count(1), 6);
        });
        EDGES.edge("any int: 0, below 0, least, most, what are refusals elsewhere", x -> {
            int[] values = {0, -1, -2, -3, -5, Edges.LEAST, Edges.MOST, 0};
            int before = 1;
            for (int value : values) {
                is(x.seed(value), before);
                is(x.count(1), value);
                before = value;
            }
        });
        EDGES.edge("after draws: what they have left", x -> {
            is(x.deal(0, 0, 1, 1), 0);
            is(x.seed(3), 1103527590);
        });
    }

    private static void deal() {
        EDGES.promise(24);
        EDGES.edge("n 0: no ELEMENTS, no DRAW", x -> {
            is(x.uniform(0, 5, 2), 1);
            is(x.deal(0, 2, 0, 4), 0);
            EDGES.uniform(x, 0, 0, 0);
            is(x.count(1), 1);
        });
        EDGES.edge("r 0: all idle, no DRAW", x -> {
            is(x.deal(0, 2, 7, 0), 0);
            EDGES.uniform(x, 0, 7, 0);
            is(x.count(1), 1);
        });
        EDGES.edge("n 7, r 4: 28 DRAWS", x -> {
            int z = 1;
            for (int draw = 0; draw < 28; draw++) {
                z = z * 1103515245 + 12345;
            }
            for (int field = 0; field < 4; field++) {
                x.seed(1);
                x.deal(0, field, 7, 4);
                is(x.count(1), z);
                is(x.many(0, 0), 7);
            }
        });
        EDGES.edge("more ROWS than COLUMNS, and more COLUMNS than ROWS", x -> {
            for (int z = 0; z < 20; z++) {
                x.seed(z);
                int rank = x.deal(0, 2, 1, 4);
                is(x.rank(0, 1), rank);
                is(rank == 0 || rank == 1 ? 1 : 0, 1);
                rank = x.deal(1, 3, 7, 1);
                is(x.rank(1, 127), rank);
                is(rank == 0 || rank == 1 ? 1 : 0, 1);
            }
        });
        EDGES.edge("z below 0: a DRAW never is", x -> {
            // z becomes -1, of which the DRAW is 65535: 1 of TWO, 0 of THREE and of FIVE, 3 of FOUR
            int before = (-1 - 12345) * inverse(1103515245);
            int[] ranks = {1, 0, 0, 1};
            for (int field = 0; field < 4; field++) {
                x.seed(before);
                is(x.deal(0, field, 1, 1), ranks[field]);
                is(x.count(1), -1);
            }
        });
    }

    /** What times a is 1, as ints wrap. */
    private static int inverse(int a) {
        int inverse = a;
        for (int round = 0; round < 5; round++) {
            inverse *= 2 - a * inverse;
        }
        return inverse;
    }

    private static void dealByHand() {
        EDGES.edge("a DRAW is z >>> 16, column by column", x -> {
            int[] sizes = Edges.SIZES;
            is(x.sheet(0, Edges.INTS, 3), 1);
            for (int field = 0; field < 4; field++) {
                int z = -987654321 + field;
                x.seed(z);
                int rank = x.deal(0, field, 3, 2);
                for (int e = 0; e < 3; e++) {
                    z = z * 1103515245 + 12345;
                    int code = (z >>> 16) % sizes[field];
                    z = z * 1103515245 + 12345;
                    code += (z >>> 16) % sizes[field] * sizes[field];
                    is(x.write(0, e, code), 1);
                }
                is(x.columns(1, field, 0, 3), rank);
                is(x.same(0, 1), 1);
                is(x.count(1), z);
            }
        });
        EDGES.edge("z goes on from deal to deal", x -> {
            x.deal(0, 1, 7, 3);
            x.deal(1, 1, 7, 3);
            int z = x.count(1);
            x.seed(1);
            x.deal(2, 1, 7, 3);
            is(x.same(0, 2), 1);
            x.deal(3, 1, 7, 3);
            is(x.same(1, 3), 1);
            is(x.count(1), z);
        });
    }

    private static void dealRefused() {
        EDGES.leaves("v -1: BAD", Edges.BAD, x -> x.deal(-1, 0, 3, 3));
        EDGES.leaves("v 4: BAD", Edges.BAD, x -> x.deal(4, 0, 3, 3));
        EDGES.leaves("FIELD -1: BAD", Edges.BAD, x -> x.deal(0, -1, 3, 3));
        EDGES.leaves("FIELD 4: BAD", Edges.BAD, x -> x.deal(0, 4, 3, 3));
        EDGES.leaves("n -1: BAD", Edges.BAD, x -> x.deal(0, 0, -1, 3));
        EDGES.leaves("n 8: BAD", Edges.BAD, x -> x.deal(0, 0, 8, 3));
        EDGES.leaves("r -1: BAD", Edges.BAD, x -> x.deal(0, 0, 3, -1));
        EDGES.leaves("r 5: BAD, of seven too", Edges.BAD, x -> x.deal(0, 0, 7, 5));
        EDGES.leaves("extremes: BAD", Edges.BAD, x -> x.deal(0, 0, Edges.LEAST, Edges.MOST));
    }

    private static void chance() {
        EDGES.promise(25);
        EDGES.edge("m 1 and m 5", x -> {
            is(x.chance(2, 7, 4, 1, 2), 1);
            is(x.chance(3, 7, 4, 5, 3), 5);
        });
        EDGES.edge("no ELEMENTS, no ROWS: all can be", x -> {
            for (int other = 0; other < 4; other++) {
                is(x.chance(2, 0, 4, 5, other), 5);
                is(x.chance(2, 7, 0, 5, other), 5);
            }
        });
        EDGES.edge("one behind another, each as deal would", x -> {
            int yes = 0;
            int no = 0;
            for (int z = 0; z < 12; z++) {
                x.seed(z);
                int can = 0;
                for (int m = 1; m <= 5; m++) {
                    x.deal(0, 2, 6, 3);
                    int one = x.writings(0, 1) > 0 ? 1 : 0;
                    yes += one;
                    no += 1 - one;
                    can += one;
                    int next = x.seed(z);
                    is(x.chance(2, 6, 3, m, 1), can);
                    is(x.seed(next), z);
                }
            }
            is(yes > 5 && no > 5 ? 1 : 0, 1);
        });
        EDGES.edge("a VIEW that can be written in several ways counts once", x -> {
            int several = 0;
            for (int z = 0; z < 30; z++) {
                x.seed(z);
                is(x.chance(2, 6, 2, 1, 2), 1);
                x.deal(0, 2, 6, 2);
                several += x.writings(0, 2) > 1 ? 1 : 0;
            }
            is(several > 0 ? 1 : 0, 1);
        });
        EDGES.leaves("in thought: z and VIEWS are as they were", 2, x -> x.chance(0, 7, 4, 2, 0));
    }

    private static void chanceRefused() {
        EDGES.leaves("FIELD -1: BAD", Edges.BAD, x -> x.chance(-1, 3, 3, 3, 0));
        EDGES.leaves("FIELD 4: BAD", Edges.BAD, x -> x.chance(4, 3, 3, 3, 0));
        EDGES.leaves("n -1: BAD", Edges.BAD, x -> x.chance(0, -1, 3, 3, 0));
        EDGES.leaves("n 8: BAD", Edges.BAD, x -> x.chance(0, 8, 3, 3, 0));
        EDGES.leaves("r -1: BAD", Edges.BAD, x -> x.chance(0, 3, -1, 3, 0));
        EDGES.leaves("r 5: BAD", Edges.BAD, x -> x.chance(0, 7, 5, 3, 0));
        EDGES.leaves("m 0: BAD", Edges.BAD, x -> x.chance(0, 3, 3, 0, 0));
        EDGES.leaves("m -1: BAD", Edges.BAD, x -> x.chance(0, 3, 3, -1, 0));
        EDGES.leaves("m 6: BAD", Edges.BAD, x -> x.chance(0, 3, 3, 6, 0));
        EDGES.leaves("m most: BAD", Edges.BAD, x -> x.chance(0, 3, 3, Edges.MOST, 0));
        EDGES.leaves("other -1: BAD", Edges.BAD, x -> x.chance(0, 3, 3, 3, -1));
        EDGES.leaves("other 4: BAD", Edges.BAD, x -> x.chance(0, 3, 3, 3, 4));
    }
}
