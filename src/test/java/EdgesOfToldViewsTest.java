/** Boundary cases of promises 1 to 6: a new object, fields, views that are told. */
public final class EdgesOfToldViewsTest {
    private static final Edges EDGES = new Edges();

    private EdgesOfToldViewsTest() {
    }

    public static void main(String[] args) {
        newObject();
        sumsAndDifferences();
        productsAndQuotients();
        reckonRefused();
        uniform();
        uniformRefused();
        columns();
        columnsOverFields();
        columnsRefused();
        tell();
        tellRefused();
        causeOfNumbers();
        causeOfTwos();
        causeStaysOrGoes();
        EDGES.end();
    }

    private static void is(int got, int want) {
        EDGES.is(got, want);
    }

    private static void newObject() {
        EDGES.promise(1);
        EDGES.edge("all VIEWS of no ELEMENTS", x -> {
            for (int v = 0; v < 4; v++) {
                EDGES.uniform(x, v, 0, 0);
            }
            is(x.count(0), 0);
        });
        EDGES.edge("nothing held", x -> {
            for (int h = 0; h < 4; h++) {
                for (int what = 0; what < 5; what++) {
                    is(x.held(h, what), Edges.NOTHING);
                }
                is(x.take(0, h), Edges.NOTHING);
            }
            is(x.count(2), 0);
        });
        EDGES.edge("SHEETS missing", x -> {
            for (int s = 0; s < 4; s++) {
                is(x.item(s, 0), Edges.NOTHING);
            }
            is(x.count(3), 0);
        });
        EDGES.edge("no CAUSE", x -> EDGES.cause(x, 0, -1, -1, -1));
        EDGES.edge("no IMAGE", x -> is(x.back(), Edges.STATE));
        EDGES.edge("z is 1", x -> {
            is(x.count(1), 1);
            is(x.seed(0), 1);
        });
        EDGES.edge("another object is another", x -> {
            Counted other = Furnished.object();
            is(other.count(0), 12);
            is(x.count(0) + x.count(2) + x.count(3) + x.cause(0), 0);
            is(x.count(1), 1);
            is(x.back(), Edges.STATE);
        });
        EDGES.edge("the 512th call still counts", x -> {
            is(x.uniform(3, 7, 3), 1);
            for (int call = 2; call < 512; call++) {
                is(x.rank(3, call & 127), Math.min(3, Integer.bitCount(call & 127)));
            }
            is(x.many(3, 2), 35);
        });
    }

    private static void sumsAndDifferences() {
        EDGES.promise(2);
        EDGES.edge("sums of rests: SIZE less 1 and 1 wrap to 0", x -> {
            for (int field = 0; field < 3; field++) {
                int last = Edges.SIZES[field] - 1;
                is(x.reckon(field, 0, last, 1), 0);
                is(x.reckon(field, 0, 1, last), 0);
                is(x.reckon(field, 0, last, last), last == 1 ? 0 : last - 1);
                is(x.reckon(field, 0, last, 0), last);
                is(x.reckon(field, 0, 0, 0), 0);
            }
        });
        EDGES.edge("the highest sums that don't wrap", x -> {
            is(x.reckon(0, 0, 0, 1), 1);
            is(x.reckon(1, 0, 1, 1), 2);
            is(x.reckon(2, 0, 2, 2), 4);
            is(x.reckon(2, 0, 2, 3), 0);
        });
        EDGES.edge("differences of rests below 0 wrap", x -> {
            for (int field = 0; field < 3; field++) {
                int last = Edges.SIZES[field] - 1;
                is(x.reckon(field, 1, 0, 1), last);
                is(x.reckon(field, 1, 0, last), 1);
                is(x.reckon(field, 1, last, last), 0);
                is(x.reckon(field, 1, last, 0), last);
                is(x.reckon(field, 1, 0, 0), 0);
            }
        });
        EDGES.edge("of FOUR sums are a ^ b, and differences as well", x -> {
            for (int a = 0; a < 4; a++) {
                for (int b = 0; b < 4; b++) {
                    is(x.reckon(3, 0, a, b), a ^ b);
                    is(x.reckon(3, 1, a, b), a ^ b);
                }
            }
        });
    }

    private static void productsAndQuotients() {
        EDGES.edge("0 times any is 0, 1 times any is that", x -> {
            for (int field = 0; field < 4; field++) {
                for (int a = 0; a < Edges.SIZES[field]; a++) {
                    is(x.reckon(field, 2, a, 0), 0);
                    is(x.reckon(field, 2, 0, a), 0);
                    is(x.reckon(field, 2, a, 1), a);
                    is(x.reckon(field, 2, 1, a), a);
                }
            }
        });
        EDGES.edge("the highest products", x -> {
            is(x.reckon(0, 2, 1, 1), 1);
            is(x.reckon(1, 2, 2, 2), 1);
            is(x.reckon(2, 2, 4, 4), 1);
            is(x.reckon(2, 2, 3, 4), 2);
            is(x.reckon(3, 2, 2, 2), 3);
            is(x.reckon(3, 2, 2, 3), 1);
            is(x.reckon(3, 2, 3, 2), 1);
            is(x.reckon(3, 2, 3, 3), 2);
        });
        EDGES.edge("0 by any is 0, any by 1 is that, any by itself is 1", x -> {
            for (int field = 0; field < 4; field++) {
                for (int a = 1; a < Edges.SIZES[field]; a++) {
                    is(x.reckon(field, 3, 0, a), 0);
                    is(x.reckon(field, 3, a, 1), a);
                    is(x.reckon(field, 3, a, a), 1);
                }
            }
        });
        EDGES.edge("by the highest", x -> {
            is(x.reckon(1, 3, 1, 2), 2);
            is(x.reckon(2, 3, 1, 4), 4);
            is(x.reckon(2, 3, 3, 4), 2);
            is(x.reckon(3, 3, 1, 3), 2);
            is(x.reckon(3, 3, 2, 3), 3);
            is(x.reckon(3, 3, 3, 2), 2);
        });
        EDGES.edge("b is 0: -15 for quotients alone", x -> {
            for (int field = 0; field < 4; field++) {
                for (int a = 0; a < Edges.SIZES[field]; a++) {
                    is(x.reckon(field, 0, a, 0), a);
                    is(x.reckon(field, 1, a, 0), a);
                    is(x.reckon(field, 2, a, 0), 0);
                    is(x.reckon(field, 3, a, 0), Edges.PARTED);
                }
            }
        });
    }

    private static void reckonRefused() {
        EDGES.edge("a, b too small or too large: BAD, before -15", x -> {
            for (int field = 0; field < 4; field++) {
                int[] wrong = {-1, Edges.SIZES[field], Edges.LEAST, Edges.MOST};
                for (int number : wrong) {
                    for (int what = 0; what < 4; what++) {
                        is(x.reckon(field, what, number, 0), Edges.BAD);
                        is(x.reckon(field, what, number, 1), Edges.BAD);
                        is(x.reckon(field, what, 0, number), Edges.BAD);
                    }
                }
            }
        });
        EDGES.leaves("FIELD -1: BAD", Edges.BAD, x -> x.reckon(-1, 0, 0, 0));
        EDGES.leaves("FIELD 4: BAD", Edges.BAD, x -> x.reckon(4, 0, 0, 0));
        EDGES.leaves("FIELD 4: BAD before -15", Edges.BAD, x -> x.reckon(4, 3, 0, 0));
        EDGES.leaves("what -1: BAD", Edges.BAD, x -> x.reckon(0, -1, 0, 0));
        EDGES.leaves("what 4: BAD", Edges.BAD, x -> x.reckon(0, 4, 1, 0));
        EDGES.leaves("a number of FIVE isn't one of FOUR", Edges.BAD, x -> x.reckon(3, 0, 4, 1));
        EDGES.leaves("-15 changes nothing", Edges.PARTED, x -> x.reckon(2, 3, 4, 0));
        EDGES.leaves("what is asked changes nothing", 2, x -> x.reckon(2, 2, 4, 3));
    }

    private static void uniform() {
        EDGES.promise(3);
        EDGES.edge("n 0", x -> {
            is(x.uniform(0, 7, 4), 1);
            is(x.uniform(0, 0, 0), 1);
            EDGES.uniform(x, 0, 0, 0);
        });
        EDGES.edge("n 7, r 7: all FREE", x -> {
            is(x.uniform(3, 7, 7), 1);
            EDGES.uniform(x, 3, 7, 7);
        });
        EDGES.edge("n 7, r 0: all idle", x -> {
            is(x.uniform(3, 7, 0), 1);
            EDGES.uniform(x, 3, 7, 0);
        });
        EDGES.edge("n 7, r 6 and 1", x -> {
            is(x.uniform(0, 7, 6), 1);
            EDGES.uniform(x, 0, 7, 6);
            is(x.uniform(0, 7, 1), 1);
            EDGES.uniform(x, 0, 7, 1);
        });
        EDGES.edge("n 1, r 0 and 1", x -> {
            is(x.uniform(0, 1, 0), 1);
            EDGES.uniform(x, 0, 1, 0);
            is(x.uniform(0, 1, 1), 1);
            EDGES.uniform(x, 0, 1, 1);
        });
        EDGES.edge("what was there before leaves no trace", x -> {
            is(x.uniform(1, 7, 7), 1);
            is(x.uniform(1, 3, 1), 1);
            EDGES.uniform(x, 1, 3, 1);
            is(x.uniform(1, 6, 4), 1);
            EDGES.uniform(x, 1, 6, 4);
            is(x.uniform(2, 6, 4), 1);
            is(x.same(1, 2), 1);
        });
        EDGES.edge("the other VIEWS stay", x -> {
            for (int v = 0; v < 4; v++) {
                is(x.uniform(v, 5 - v, 2), 1);
            }
            for (int v = 0; v < 4; v++) {
                EDGES.uniform(x, v, 5 - v, 2);
            }
        });
    }

    private static void uniformRefused() {
        EDGES.leaves("v -1: BAD", Edges.BAD, x -> x.uniform(-1, 3, 2));
        EDGES.leaves("v 4: BAD", Edges.BAD, x -> x.uniform(4, 3, 2));
        EDGES.leaves("n -1: BAD", Edges.BAD, x -> x.uniform(0, -1, 0));
        EDGES.leaves("n -1, r -1: BAD", Edges.BAD, x -> x.uniform(0, -1, -1));
        EDGES.leaves("n 8: BAD", Edges.BAD, x -> x.uniform(0, 8, 3));
        EDGES.leaves("n 32: BAD", Edges.BAD, x -> x.uniform(0, 32, 3));
        EDGES.leaves("n most: BAD", Edges.BAD, x -> x.uniform(0, Edges.MOST, 0));
        EDGES.leaves("n least: BAD", Edges.BAD, x -> x.uniform(0, Edges.LEAST, 0));
        EDGES.leaves("r -1: BAD", Edges.BAD, x -> x.uniform(0, 5, -1));
        EDGES.leaves("r n and 1: BAD", Edges.BAD, x -> x.uniform(0, 5, 6));
        EDGES.leaves("n 0, r 1: BAD", Edges.BAD, x -> x.uniform(0, 0, 1));
        EDGES.leaves("n 7, r 8: BAD", Edges.BAD, x -> x.uniform(0, 7, 8));
        EDGES.leaves("r most: BAD", Edges.BAD, x -> x.uniform(0, 7, Edges.MOST));
        EDGES.leaves("r least: BAD", Edges.BAD, x -> x.uniform(0, 7, Edges.LEAST));
    }

    private static void columns() {
        EDGES.promise(4);
        EDGES.edge("n 0: no ELEMENTS", x -> {
            EDGES.fill(x, 0, Edges.INTS, 1, 1);
            is(x.columns(0, 0, 0, 2), 1);
            is(x.columns(0, 0, 0, 0), 0);
            EDGES.uniform(x, 0, 0, 0);
        });
        EDGES.edge("n 0 of a SHEET of no numbers", x -> {
            is(x.sheet(0, Edges.INTS, 0), 1);
            is(x.uniform(0, 3, 1), 1);
            is(x.columns(0, 3, 0, 0), 0);
            is(x.many(0, 0), 0);
        });
        EDGES.edge("n 7: all seven ROWS, in each FIELD", x -> {
            for (int field = 0; field < 4; field++) {
                is(x.sheet(0, Edges.INTS, 7), 1);
                for (int e = 0, unit = 1; e < 7; e++, unit *= Edges.SIZES[field]) {
                    is(x.write(0, e, unit * (Edges.SIZES[field] - 1)), 1);
                }
                is(x.columns(0, field, 0, 7), 7);
                is(x.many(0, 1), 128);
            }
        });
        EDGES.edge("all 0: all idle", x -> {
            is(x.sheet(0, Edges.BYTES, 7), 1);
            for (int field = 0; field < 4; field++) {
                is(x.columns(0, field, 0, 7), 0);
                is(x.many(0, 2), 1);
                is(x.rank(0, 127), 0);
            }
        });
        EDGES.edge("just as many numbers as n", x -> {
            EDGES.fill(x, 0, Edges.INTS, 1, 2, 3);
            is(x.columns(0, 0, 0, 3), 2);
            is(x.many(0, 0), 3);
        });
        EDGES.edge("those behind the first n don't count", x -> {
            EDGES.fill(x, 0, Edges.INTS, 1, 2, -1, 1 << 30);
            is(x.columns(0, 0, 0, 2), 2);
            is(x.many(0, 0), 2);
            is(x.columns(0, 0, 0, 3), Edges.STATE);
        });
        EDGES.edge("of 64 numbers the first seven", x -> {
            is(x.sheet(0, Edges.INTS, 64), 1);
            is(x.write(0, 6, 1), 1);
            is(x.write(0, 7, 2), 1);
            is(x.columns(0, 0, 0, 7), 1);
            is(x.rank(0, 63), 0);
            is(x.rank(0, 64), 1);
        });
    }

    private static void columnsOverFields() {
        EDGES.edge("the highest COLUMN of each FIELD, and none above", x -> {
            int[] codes = {128, 2187, 78125, 16384};
            for (int field = 0; field < 4; field++) {
                EDGES.fill(x, 0, Edges.INTS, codes[field] - 1, 0, codes[field]);
                is(x.columns(0, field, 0, 2), 1);
                is(x.columns(1, field, 0, 3), Edges.STATE);
                is(x.rank(0, 1), 1);
                is(x.rank(0, 2), 0);
            }
            is(x.many(1, 0), 0);
        });
        EDGES.edge("COLUMNS with a last number alone aren't 0", x -> {
            int[] last = {64, 729, 15625, 4096};
            for (int field = 0; field < 4; field++) {
                EDGES.fill(x, 0, Edges.INTS, last[field], last[field] * (Edges.SIZES[field] - 1), last[field] - 1);
                is(x.columns(0, field, 0, 3), 2);
                is(x.rank(0, 3), 1);
                is(x.rank(0, 5), 2);
            }
        });
        EDGES.edge("one that is so many times another is made of it", x -> {
            EDGES.fill(x, 0, Edges.INTS, 1 + 2 * 3, 2 + 3);
            is(x.columns(0, 1, 0, 2), 1);
            EDGES.fill(x, 0, Edges.INTS, 1 + 2 * 5, 2 + 4 * 5, 3 + 5, 4 + 3 * 5);
            is(x.columns(0, 2, 0, 4), 1);
            EDGES.fill(x, 0, Edges.INTS, 1 + 2 * 4, 2 + 3 * 4, 3 + 4);
            is(x.columns(0, 3, 0, 3), 1);
            EDGES.fill(x, 0, Edges.INTS, 1 + 2 * 4, 3 + 2 * 4);
            is(x.columns(0, 3, 0, 2), 2);
        });
        EDGES.edge("sums that wrap to 0", x -> {
            EDGES.fill(x, 0, Edges.INTS, 3, 5, 6);
            is(x.columns(0, 0, 0, 3), 2);
            EDGES.fill(x, 0, Edges.INTS, 1 + 3, 3 + 9, 1 + 2 * 9);
            is(x.columns(0, 1, 0, 3), 2);
            EDGES.fill(x, 0, Edges.INTS, 1 + 3, 3 + 9, 1 + 9);
            is(x.columns(0, 1, 0, 3), 3);
            EDGES.fill(x, 0, Edges.INTS, 1 + 5, 5 + 25, 1 + 4 * 25);
            is(x.columns(0, 2, 0, 3), 2);
            EDGES.fill(x, 0, Edges.INTS, 1 + 2 * 4, 2 * 4 + 3 * 16, 1 + 3 * 16);
            is(x.columns(0, 3, 0, 3), 2);
        });
        EDGES.edge("a SHEET of bytes tells them as well", x -> {
            EDGES.fill(x, 0, Edges.BYTES, 127, 1, 126);
            is(x.columns(0, 0, 0, 3), 2);
        });
    }

    private static void columnsRefused() {
        EDGES.leaves("v -1: BAD", Edges.BAD, x -> x.columns(-1, 0, 1, 1));
        EDGES.leaves("v 4: BAD", Edges.BAD, x -> x.columns(4, 3, 0, 5));
        EDGES.leaves("FIELD -1: BAD", Edges.BAD, x -> x.columns(0, -1, 0, 5));
        EDGES.leaves("FIELD 4: BAD", Edges.BAD, x -> x.columns(0, 4, 0, 5));
        EDGES.leaves("s -1: BAD", Edges.BAD, x -> x.columns(0, 3, -1, 0));
        EDGES.leaves("s 4: BAD", Edges.BAD, x -> x.columns(0, 3, 4, 0));
        EDGES.leaves("n -1: BAD", Edges.BAD, x -> x.columns(0, 3, 0, -1));
        EDGES.leaves("n 8: BAD, before -12", Edges.BAD, x -> x.columns(0, 3, 0, 8));
        EDGES.leaves("n 8: BAD, before -11", Edges.BAD, x -> x.columns(0, 3, 3, 8));
        EDGES.edge("n 8 of 64 numbers: BAD", x -> {
            is(x.sheet(0, Edges.INTS, 64), 1);
            is(x.columns(0, 0, 0, 8), Edges.BAD);
        });
        EDGES.leaves("missing: -11", Edges.NOTHING, x -> x.columns(0, 3, 3, 5));
        EDGES.leaves("missing: -11, for none too", Edges.NOTHING, x -> x.columns(0, 3, 3, 0));
        EDGES.leaves("one number too few: -12", Edges.OUTSIDE, x -> x.columns(0, 3, 0, 6));
        EDGES.leaves("one of none: -12", Edges.OUTSIDE, x -> x.columns(0, 3, 2, 1));
        EDGES.leaves("-12 before STATE", Edges.OUTSIDE, x -> x.columns(0, 3, 1, 4));
        EDGES.leaves("a first number below 0: STATE", Edges.STATE, x -> x.columns(0, 2, 1, 1));
        EDGES.edge("the last of seven is no COLUMN: STATE", x -> {
            EDGES.fill(x, 0, Edges.INTS, 1, 2, 4, 1, 2, 4, 128);
            is(x.uniform(0, 2, 1), 1);
            is(x.columns(0, 0, 0, 7), Edges.STATE);
            EDGES.uniform(x, 0, 2, 1);
            is(x.write(0, 6, Edges.LEAST), 1);
            is(x.columns(0, 0, 0, 7), Edges.STATE);
            is(x.write(0, 6, Edges.MOST), 1);
            is(x.columns(0, 0, 0, 7), Edges.STATE);
            EDGES.uniform(x, 0, 2, 1);
            is(x.columns(0, 0, 0, 6), 3);
        });
    }

    private static void tell() {
        EDGES.promise(5);
        EDGES.edge("n 0: the empty set alone", x -> {
            is(x.uniform(0, 5, 2), 1);
            is(x.sheet(0, Edges.INTS, 1), 1);
            is(x.tell(0, 0, 0), 0);
            EDGES.uniform(x, 0, 0, 0);
        });
        EDGES.edge("n 7: all of them", x -> {
            EDGES.fill(x, 0, Edges.BYTES, 127);
            is(x.tell(0, 0, 7), 7);
            EDGES.uniform(x, 0, 7, 7);
        });
        EDGES.edge("n 7: the empty set alone", x -> {
            is(x.sheet(0, Edges.INTS, 1), 1);
            is(x.tell(0, 0, 7), 0);
            EDGES.uniform(x, 0, 7, 0);
        });
        EDGES.edge("n 7: all 35 threes", x -> {
            is(x.uniform(1, 7, 3), 1);
            is(x.list(1, 0), 35);
            is(x.tell(0, 0, 7), 3);
            EDGES.uniform(x, 0, 7, 3);
        });
        EDGES.edge("64 numbers, one and the same", x -> {
            is(x.sheet(0, Edges.INTS, 64), 1);
            for (int i = 0; i < 64; i++) {
                is(x.write(0, i, 5), 1);
            }
            is(x.tell(0, 0, 3), 2);
            is(x.many(0, 2), 1);
            is(x.at(0, 2, 0), 5);
        });
        EDGES.edge("the last of 64 is looked at", x -> {
            is(x.sheet(0, Edges.INTS, 64), 1);
            is(x.tell(0, 0, 3), 0);
            is(x.write(0, 63, 1), 1);
            is(x.tell(0, 0, 3), Edges.STATE);
        });
        EDGES.edge("all numbers count, not the first n alone", x -> {
            EDGES.fill(x, 0, Edges.INTS, 3, 5, 6);
            is(x.tell(0, 0, 3), 2);
            EDGES.uniform(x, 0, 3, 2);
            EDGES.fill(x, 0, Edges.INTS, 1, 1, 1, 2);
            is(x.tell(0, 0, 2), 1);
            EDGES.uniform(x, 0, 2, 1);
        });
        EDGES.edge("the highest set of n ELEMENTS, and none above", x -> {
            for (int n = 0; n <= 7; n++) {
                EDGES.fill(x, 0, Edges.INTS, (1 << n) - 1);
                is(x.tell(0, 0, n), n);
                is(x.write(0, 0, 1 << n), 1);
                is(x.tell(0, 0, n), Edges.STATE);
                is(x.many(0, 0), n);
            }
        });
    }

    private static void tellRefused() {
        EDGES.leaves("v -1: BAD", Edges.BAD, x -> x.tell(-1, 0, 4));
        EDGES.leaves("v 4: BAD", Edges.BAD, x -> x.tell(4, 0, 4));
        EDGES.leaves("s -1: BAD", Edges.BAD, x -> x.tell(0, -1, 4));
        EDGES.leaves("s 4: BAD", Edges.BAD, x -> x.tell(0, 4, 4));
        EDGES.leaves("n -1: BAD", Edges.BAD, x -> x.tell(0, 0, -1));
        EDGES.leaves("n 8: BAD", Edges.BAD, x -> x.tell(0, 0, 8));
        EDGES.leaves("n 8: BAD, before -11", Edges.BAD, x -> x.tell(0, 3, 8));
        EDGES.leaves("n most: BAD", Edges.BAD, x -> x.tell(0, 0, Edges.MOST));
        EDGES.leaves("missing: -11", Edges.NOTHING, x -> x.tell(0, 3, 4));
        EDGES.edge("they are none: STATE, and the VIEW stays", x -> {
            is(x.uniform(0, 4, 2), 1);
            EDGES.fill(x, 0, Edges.INTS, 3, 12);
            is(x.tell(0, 0, 4), Edges.STATE);
            EDGES.uniform(x, 0, 4, 2);
            EDGES.row(x, 0, 3, 12);
        });
        EDGES.edge("none is told: STATE, with n 0 too", x -> {
            is(x.sheet(0, Edges.INTS, 0), 1);
            is(x.tell(0, 0, 7), Edges.STATE);
            is(x.tell(0, 0, 0), Edges.STATE);
            is(x.sheet(0, Edges.BYTES, 0), 1);
            is(x.tell(0, 0, 0), Edges.STATE);
        });
        EDGES.edge("a byte below 0 is no set: STATE", x -> {
            EDGES.fill(x, 0, Edges.BYTES, 255);
            is(x.tell(0, 0, 7), Edges.STATE);
            is(x.cause(0), 2);
        });
    }

    private static void told(Counted x, int n, int... numbers) {
        EDGES.fill(x, 0, Edges.INTS, numbers);
        is(x.tell(0, 0, n), Edges.STATE);
    }

    private static void causeOfNumbers() {
        EDGES.promise(6);
        EDGES.edge("sort 1: none is told", x -> {
            told(x, 3);
            EDGES.cause(x, 1, -1, -1, -1);
        });
        EDGES.edge("sort 2 at place 0: one too high", x -> {
            told(x, 3, 8, 8);
            EDGES.cause(x, 2, 0, -1, -1);
        });
        EDGES.edge("sort 2 at place 0: below 0", x -> {
            told(x, 7, -1);
            EDGES.cause(x, 2, 0, -1, -1);
            told(x, 7, Edges.LEAST);
            EDGES.cause(x, 2, 0, -1, -1);
        });
        EDGES.edge("sort 2 with n 0: one is too high", x -> {
            told(x, 0, 0, 1);
            EDGES.cause(x, 2, 1, -1, -1);
        });
        EDGES.edge("sort 2 with n 7: 128 is too high, 127 isn't", x -> {
            told(x, 7, 127, 128);
            EDGES.cause(x, 2, 1, -1, -1);
        });
        EDGES.edge("sort 2 at place 63", x -> {
            is(x.sheet(0, Edges.INTS, 64), 1);
            is(x.write(0, 63, 4), 1);
            is(x.tell(0, 0, 2), Edges.STATE);
            EDGES.cause(x, 2, 63, -1, -1);
        });
        EDGES.edge("sort 3 at place 1: one more, one fewer", x -> {
            told(x, 3, 1, 3);
            EDGES.cause(x, 3, 1, -1, -1);
            told(x, 3, 3, 1);
            EDGES.cause(x, 3, 1, -1, -1);
            told(x, 3, 1, 0);
            EDGES.cause(x, 3, 1, -1, -1);
        });
        EDGES.edge("sort 3 at place 63", x -> {
            is(x.sheet(0, Edges.INTS, 64), 1);
            is(x.write(0, 63, 2), 1);
            is(x.tell(0, 0, 2), Edges.STATE);
            EDGES.cause(x, 3, 63, -1, -1);
        });
        EDGES.edge("of one number sort 2 comes before sort 3", x -> {
            told(x, 3, 1, 12);
            EDGES.cause(x, 2, 1, -1, -1);
        });
        EDGES.edge("number by number: the earlier one counts, of either sort", x -> {
            told(x, 3, 1, 3, 8);
            EDGES.cause(x, 3, 1, -1, -1);
            told(x, 3, 1, 8, 3);
            EDGES.cause(x, 2, 1, -1, -1);
        });
        EDGES.edge("numbers come before twos", x -> {
            told(x, 4, 3, 12, 1);
            EDGES.cause(x, 3, 2, -1, -1);
            told(x, 4, 3, 12, 16);
            EDGES.cause(x, 2, 2, -1, -1);
        });
    }

    private static void causeOfTwos() {
        EDGES.edge("sort 4 at places 0 and 1: the lowest ELEMENT of the one", x -> {
            told(x, 4, 12, 3);
            EDGES.cause(x, 4, 0, 1, 2);
            told(x, 4, 6, 9);
            EDGES.cause(x, 4, 0, 1, 1);
        });
        EDGES.edge("an ELEMENT that both have isn't asked", x -> {
            told(x, 5, 0b00111, 0b11001);
            EDGES.cause(x, 4, 0, 1, 1);
        });
        EDGES.edge("the highest ELEMENT", x -> {
            told(x, 7, 0b1100000, 0b1000001, 0b0000011);
            EDGES.cause(x, 4, 0, 2, 6);
        });
        EDGES.edge("the place of the one comes before that of the other", x -> {
            told(x, 4, 0b0011, 0b0101, 0b1010);
            EDGES.cause(x, 4, 1, 2, 0);
        });
        EDGES.edge("the other may come before the one", x -> {
            told(x, 4, 0b0110, 0b0101, 0b0011, 0b1001);
            EDGES.cause(x, 4, 3, 0, 0);
            told(x, 4, 0b0101, 0b0110, 0b0011, 0b1001);
            EDGES.cause(x, 4, 3, 1, 0);
        });
        EDGES.edge("numbers told twice: the first of them", x -> {
            told(x, 4, 3, 3, 12, 12);
            EDGES.cause(x, 4, 0, 2, 0);
        });
        EDGES.edge("at the last places", x -> {
            is(x.sheet(0, Edges.INTS, 64), 1);
            for (int i = 0; i < 63; i++) {
                is(x.write(0, i, 3), 1);
            }
            is(x.write(0, 63, 12), 1);
            is(x.tell(0, 0, 4), Edges.STATE);
            EDGES.cause(x, 4, 0, 63, 0);
        });
    }

    private static void causeStaysOrGoes() {
        EDGES.edge("no tell() yet", x -> EDGES.cause(x, 0, -1, -1, -1));
        EDGES.edge("refused otherwise, and nothing before", x -> {
            is(x.tell(0, 0, 3), Edges.NOTHING);
            is(x.tell(0, 0, 8), Edges.BAD);
            EDGES.cause(x, 0, -1, -1, -1);
        });
        EDGES.edge("refused otherwise later changes nothing", x -> {
            told(x, 4, 3, 12);
            is(x.tell(0, 1, 4), Edges.NOTHING);
            is(x.tell(4, 0, 4), Edges.BAD);
            is(x.tell(0, 4, 4), Edges.BAD);
            is(x.tell(0, 0, -1), Edges.BAD);
            EDGES.cause(x, 4, 0, 1, 0);
        });
        EDGES.edge("a later one that is taken", x -> {
            told(x, 4, 3, 12);
            EDGES.fill(x, 1, Edges.INTS, 3);
            is(x.tell(1, 1, 2), 2);
            EDGES.cause(x, 0, -1, -1, -1);
        });
        EDGES.edge("a later one that is refused for its BASES", x -> {
            told(x, 4, 3, 12);
            told(x, 4, 3, 1);
            EDGES.cause(x, 3, 1, -1, -1);
            told(x, 4);
            EDGES.cause(x, 1, -1, -1, -1);
            told(x, 4, 3, 12);
            EDGES.cause(x, 4, 0, 1, 0);
        });
        EDGES.edge("it is of the SHEET as it was then", x -> {
            told(x, 4, 3, 12);
            is(x.sheet(0, -1, 0), 1);
            EDGES.cause(x, 4, 0, 1, 0);
        });
        EDGES.edge("THE IMAGE doesn't keep it", x -> {
            is(x.image(), 0);
            told(x, 4, 3, 12);
            is(x.back(), 0);
            EDGES.cause(x, 4, 0, 1, 0);
        });
        EDGES.leaves("what -1: BAD", Edges.BAD, x -> x.cause(-1));
        EDGES.leaves("what 4: BAD", Edges.BAD, x -> x.cause(4));
        EDGES.leaves("what most: BAD", Edges.BAD, x -> x.cause(Edges.MOST));
        EDGES.leaves("what least: BAD", Edges.BAD, x -> x.cause(Edges.LEAST));
        EDGES.leaves("what is asked changes nothing", 4, x -> x.cause(0));
    }
}
