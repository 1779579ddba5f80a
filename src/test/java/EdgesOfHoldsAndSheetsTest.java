/** Boundary cases of promises 26 to 33: hold, held, take, sheet, write, item, copy, list. */
public final class EdgesOfHoldsAndSheetsTest {
    private static final Edges EDGES = new Edges();
    private static final int[] NONE_SUCH = {-1, 4, Edges.LEAST, Edges.MOST};

    private EdgesOfHoldsAndSheetsTest() {
    }

    public static void main(String[] args) {
        hold();
        holdRefused();
        held();
        heldRefused();
        take();
        takeRefused();
        sheet();
        sheetRefused();
        write();
        writeRefused();
        item();
        copy();
        copyOfNone();
        copyRefused();
        copyOutside();
        list();
        EDGES.end();
    }

    private static void is(int got, int want) {
        EDGES.is(got, want);
    }

    private static void holds(Counted x, int h, int... want) {
        for (int what = 0; what < 5; what++) {
            is(x.held(h, what), want[what]);
        }
    }

    private static void hold() {
        EDGES.promise(26);
        EDGES.edge("the first HOLD and the last", x -> {
            is(x.hold(0, 0, 0), 1);
            is(x.hold(3, 0, 3), 1);
            is(x.held(0, 0), 2);
            is(x.held(3, 0), 4);
            is(x.held(1, 0), Edges.NOTHING);
            is(x.held(2, 0), Edges.NOTHING);
        });
        EDGES.edge("FIELD 0 and a VIEW of no ELEMENTS are something", x -> {
            is(x.hold(0, 0, 0), 1);
            is(x.hold(1, 1, 0), 1);
            is(x.count(2), 2);
            holds(x, 0, 2, 1, Edges.OTHER, Edges.OTHER, Edges.OTHER);
            holds(x, 1, Edges.OTHER, Edges.OTHER, 0, 0, 1);
        });
        EDGES.edge("nothing: k doesn't matter", x -> {
            int[] numbers = {0, 3, 4, -1, Edges.LEAST, Edges.MOST};
            for (int k : numbers) {
                is(x.hold(0, 0, 1), 1);
                is(x.hold(0, 2, k), 1);
                is(x.held(0, 0), Edges.NOTHING);
                is(x.hold(0, 1, 1), 1);
                is(x.hold(0, 2, k), 1);
                is(x.held(0, 2), Edges.NOTHING);
            }
        });
        EDGES.edge("nothing where nothing is", x -> {
            is(x.hold(2, 2, 0), 1);
            is(x.count(2), 0);
        });
        EDGES.edge("a VIEW as it is now: it doesn't follow the VIEW", x -> {
            is(x.uniform(1, 7, 3), 1);
            is(x.hold(0, 1, 1), 1);
            is(x.uniform(1, 2, 2), 1);
            holds(x, 0, Edges.OTHER, Edges.OTHER, 7, 3, 35);
            is(x.many(1, 0), 2);
        });
        EDGES.edge("one thing instead of another", x -> {
            is(x.uniform(1, 4, 1), 1);
            is(x.hold(0, 0, 2), 1);
            is(x.hold(0, 1, 1), 1);
            holds(x, 0, Edges.OTHER, Edges.OTHER, 4, 1, 4);
            is(x.hold(0, 0, 3), 1);
            holds(x, 0, 4, 0, Edges.OTHER, Edges.OTHER, Edges.OTHER);
            is(x.hold(0, 1, 0), 1);
            holds(x, 0, Edges.OTHER, Edges.OTHER, 0, 0, 1);
            is(x.count(2), 1);
        });
        EDGES.edge("two HOLDS with the same VIEW at unlike times", x -> {
            is(x.uniform(1, 4, 1), 1);
            is(x.hold(0, 1, 1), 1);
            is(x.uniform(1, 5, 5), 1);
            is(x.hold(1, 1, 1), 1);
            is(x.held(0, 2), 4);
            is(x.held(1, 2), 5);
        });
    }

    private static void holdRefused() {
        EDGES.leaves("h -1: BAD", Edges.BAD, x -> x.hold(-1, 0, 0));
        EDGES.leaves("h 4: BAD", Edges.BAD, x -> x.hold(4, 0, 0));
        EDGES.leaves("h 4, nothing: BAD", Edges.BAD, x -> x.hold(4, 2, 0));
        EDGES.leaves("what -1: BAD", Edges.BAD, x -> x.hold(0, -1, 0));
        EDGES.leaves("what 3: BAD", Edges.BAD, x -> x.hold(0, 3, 0));
        EDGES.leaves("FIELD -1: BAD", Edges.BAD, x -> x.hold(0, 0, -1));
        EDGES.leaves("FIELD 4: BAD", Edges.BAD, x -> x.hold(1, 0, 4));
        EDGES.leaves("VIEW -1: BAD", Edges.BAD, x -> x.hold(0, 1, -1));
        EDGES.leaves("VIEW 4: BAD", Edges.BAD, x -> x.hold(2, 1, 4));
        EDGES.leaves("extremes: BAD", Edges.BAD, x -> x.hold(3, Edges.MOST, Edges.LEAST));
    }

    private static void held() {
        EDGES.promise(27);
        EDGES.edge("SIZE, and 1 if its numbers are rests by it", x -> {
            int[] rests = {1, 1, 1, 0};
            for (int field = 0; field < 4; field++) {
                is(x.hold(field, 0, field), 1);
                holds(x, field, Edges.SIZES[field], rests[field], Edges.OTHER, Edges.OTHER, Edges.OTHER);
            }
        });
        EDGES.edge("a VIEW of no ELEMENTS: one BASE", x -> {
            is(x.hold(0, 1, 3), 1);
            holds(x, 0, Edges.OTHER, Edges.OTHER, 0, 0, 1);
        });
        EDGES.edge("a VIEW of seven, FREE, idle, with most BASES", x -> {
            is(x.uniform(0, 7, 7), 1);
            is(x.hold(0, 1, 0), 1);
            holds(x, 0, Edges.OTHER, Edges.OTHER, 7, 7, 1);
            is(x.uniform(0, 7, 0), 1);
            is(x.hold(0, 1, 0), 1);
            holds(x, 0, Edges.OTHER, Edges.OTHER, 7, 0, 1);
            is(x.uniform(0, 7, 4), 1);
            is(x.hold(0, 1, 0), 1);
            holds(x, 0, Edges.OTHER, Edges.OTHER, 7, 4, 35);
        });
    }

    private static void heldRefused() {
        EDGES.edge("h is none, what is none: BAD, whatever is held", x -> {
            is(x.hold(0, 0, 0), 1);
            is(x.hold(1, 1, 0), 1);
            int[] wrong = {-1, 5, Edges.LEAST, Edges.MOST};
            for (int what : wrong) {
                is(x.held(0, what), Edges.BAD);
                is(x.held(1, what), Edges.BAD);
                is(x.held(2, what), Edges.BAD);
            }
            for (int h : NONE_SUCH) {
                is(x.held(h, 0), Edges.BAD);
            }
        });
        EDGES.leaves("h -1: BAD", Edges.BAD, x -> x.held(-1, 0));
        EDGES.leaves("h 4: BAD", Edges.BAD, x -> x.held(4, 0));
        EDGES.leaves("what -1: BAD", Edges.BAD, x -> x.held(0, -1));
        EDGES.leaves("what 5: BAD, before -11", Edges.BAD, x -> x.held(2, 5));
        EDGES.leaves("what 5: BAD, before -13", Edges.BAD, x -> x.held(0, 5));
        EDGES.leaves("nothing: -11", Edges.NOTHING, x -> x.held(2, 0));
        EDGES.leaves("nothing: -11, for a VIEW too", Edges.NOTHING, x -> x.held(2, 4));
        EDGES.leaves("a FIELD has no ELEMENTS: -13", Edges.OTHER, x -> x.held(0, 2));
        EDGES.leaves("a FIELD has no BASES: -13", Edges.OTHER, x -> x.held(0, 4));
        EDGES.leaves("a VIEW has no SIZE: -13", Edges.OTHER, x -> x.held(1, 0));
        EDGES.leaves("a VIEW has no numbers that are rests: -13", Edges.OTHER, x -> x.held(1, 1));
        EDGES.leaves("what is asked changes nothing", 5, x -> x.held(1, 2));
    }

    private static void take() {
        EDGES.promise(28);
        EDGES.edge("a VIEW of no ELEMENTS", x -> {
            is(x.hold(0, 1, 0), 1);
            is(x.uniform(0, 7, 2), 1);
            is(x.take(0, 0), 0);
            EDGES.uniform(x, 0, 0, 0);
        });
        EDGES.edge("a VIEW of seven", x -> {
            is(x.uniform(0, 7, 4), 1);
            is(x.hold(3, 1, 0), 1);
            is(x.take(3, 3), 7);
            EDGES.uniform(x, 3, 7, 4);
        });
        EDGES.edge("it is held on, and doesn't follow", x -> {
            is(x.uniform(0, 5, 2), 1);
            is(x.hold(0, 1, 0), 1);
            is(x.take(1, 0), 5);
            is(x.dual(1, 1), 3);
            is(x.uniform(0, 1, 1), 1);
            holds(x, 0, Edges.OTHER, Edges.OTHER, 5, 2, 10);
            is(x.take(2, 0), 5);
            EDGES.uniform(x, 2, 5, 2);
            EDGES.uniform(x, 1, 5, 3);
        });
        EDGES.edge("held anew, taken anew", x -> {
            is(x.uniform(0, 5, 2), 1);
            is(x.hold(0, 1, 0), 1);
            is(x.uniform(0, 3, 3), 1);
            is(x.hold(0, 1, 0), 1);
            is(x.take(1, 0), 3);
            EDGES.uniform(x, 1, 3, 3);
        });
    }

    private static void takeRefused() {
        EDGES.leaves("v -1: BAD", Edges.BAD, x -> x.take(-1, 1));
        EDGES.leaves("v 4: BAD", Edges.BAD, x -> x.take(4, 1));
        EDGES.leaves("h -1: BAD", Edges.BAD, x -> x.take(0, -1));
        EDGES.leaves("h 4: BAD", Edges.BAD, x -> x.take(0, 4));
        EDGES.leaves("v 4: BAD, before -11", Edges.BAD, x -> x.take(4, 2));
        EDGES.leaves("v 4: BAD, before -13", Edges.BAD, x -> x.take(4, 0));
        EDGES.leaves("nothing: -11", Edges.NOTHING, x -> x.take(0, 2));
        EDGES.leaves("a FIELD: -13", Edges.OTHER, x -> x.take(0, 0));
        EDGES.edge("a VIEW was held, a FIELD is: -13; then nothing: -11", x -> {
            is(x.uniform(0, 5, 2), 1);
            is(x.hold(0, 1, 0), 1);
            is(x.hold(0, 0, 0), 1);
            is(x.take(1, 0), Edges.OTHER);
            is(x.hold(0, 2, 0), 1);
            is(x.take(1, 0), Edges.NOTHING);
            is(x.many(1, 0), 0);
        });
    }

    private static void sheet() {
        EDGES.promise(29);
        EDGES.edge("n 0: a row of none, no missing one", x -> {
            is(x.sheet(0, Edges.BYTES, 0), 1);
            is(x.sheet(1, Edges.INTS, 0), 1);
            EDGES.row(x, 0);
            EDGES.row(x, 1);
            is(x.count(3), 2);
        });
        EDGES.edge("n 64, all 0", x -> {
            for (int sort = 0; sort <= 1; sort++) {
                is(x.sheet(3, sort, 64), 1);
                EDGES.row(x, 3, new int[64]);
            }
        });
        EDGES.edge("n 65: BAD, n 64 isn't", x -> {
            is(x.sheet(0, Edges.INTS, 65), Edges.BAD);
            is(x.item(0, 0), Edges.NOTHING);
            is(x.sheet(0, Edges.INTS, 64), 1);
            is(x.sheet(0, Edges.BYTES, 65), Edges.BAD);
            is(x.item(0, 63), 0);
        });
        EDGES.edge("missing: n doesn't matter", x -> {
            int[] numbers = {0, 1, 64, 65, -1, Edges.LEAST, Edges.MOST};
            for (int n : numbers) {
                is(x.sheet(0, Edges.INTS, 3), 1);
                is(x.sheet(0, -1, n), 1);
                is(x.item(0, 0), Edges.NOTHING);
                is(x.sheet(0, -1, n), 1);
                is(x.count(3), 0);
            }
        });
        EDGES.edge("anew: all 0, as long as n says, of the new sort", x -> {
            EDGES.fill(x, 0, Edges.INTS, 1000, 1000, 1000, 1000);
            is(x.sheet(0, Edges.INTS, 2), 1);
            EDGES.row(x, 0, 0, 0);
            is(x.sheet(0, Edges.BYTES, 5), 1);
            EDGES.row(x, 0, 0, 0, 0, 0, 0);
            is(x.write(0, 4, 1000), 1);
            is(x.item(0, 4), -24);
            is(x.sheet(0, Edges.INTS, 5), 1);
            EDGES.row(x, 0, 0, 0, 0, 0, 0);
            is(x.write(0, 4, 1000), 1);
            is(x.item(0, 4), 1000);
        });
        EDGES.edge("missing and back again: all 0", x -> {
            EDGES.fill(x, 0, Edges.INTS, 7, 7);
            is(x.sheet(0, -1, 0), 1);
            is(x.sheet(0, Edges.INTS, 2), 1);
            EDGES.row(x, 0, 0, 0);
        });
    }

    private static void sheetRefused() {
        EDGES.leaves("s -1: BAD", Edges.BAD, x -> x.sheet(-1, 1, 3));
        EDGES.leaves("s 4: BAD", Edges.BAD, x -> x.sheet(4, 1, 3));
        EDGES.leaves("s 4, missing: BAD", Edges.BAD, x -> x.sheet(4, -1, 3));
        EDGES.leaves("s 4: BAD, before -14", Edges.BAD, x -> x.sheet(4, 1, -1));
        EDGES.leaves("sort -2: BAD", Edges.BAD, x -> x.sheet(0, -2, 3));
        EDGES.leaves("sort 2: BAD", Edges.BAD, x -> x.sheet(0, 2, 3));
        EDGES.leaves("sort 2: BAD, before -14", Edges.BAD, x -> x.sheet(0, 2, -1));
        EDGES.leaves("sort -2: BAD, before -14", Edges.BAD, x -> x.sheet(0, -2, -1));
        EDGES.leaves("n 65: BAD", Edges.BAD, x -> x.sheet(0, 0, 65));
        EDGES.leaves("n most: BAD", Edges.BAD, x -> x.sheet(0, 1, Edges.MOST));
        EDGES.leaves("n -1: -14", Edges.BELOW, x -> x.sheet(0, 0, -1));
        EDGES.leaves("n -1 where it is missing: -14", Edges.BELOW, x -> x.sheet(3, 1, -1));
        EDGES.leaves("n least: -14", Edges.BELOW, x -> x.sheet(0, 1, Edges.LEAST));
    }

    private static void write() {
        EDGES.promise(30);
        EDGES.edge("the first place and the last of 64", x -> {
            is(x.sheet(0, Edges.INTS, 64), 1);
            is(x.write(0, 0, 8), 1);
            is(x.write(0, 63, 9), 1);
            is(x.item(0, 0), 8);
            is(x.item(0, 1), 0);
            is(x.item(0, 62), 0);
            is(x.item(0, 63), 9);
        });
        EDGES.edge("of bytes the lowest bits", x -> {
            int[] written = {127, 128, 255, 256, 257, -1, -128, -129, 383, 384, 0x7fffff80, Edges.LEAST, Edges.MOST};
            int[] become = {127, -128, -1, 0, 1, -1, -128, 127, 127, -128, -128, 0, -1};
            is(x.sheet(0, Edges.BYTES, 2), 1);
            for (int k = 0; k < written.length; k++) {
                is(x.write(0, 1, written[k]), 1);
                is(x.item(0, 1), become[k]);
                is(x.item(0, 0), 0);
            }
        });
        EDGES.edge("ints as they are", x -> {
            int[] written = {128, 255, 256, -129, Edges.LEAST, Edges.MOST, 0};
            is(x.sheet(0, Edges.INTS, 1), 1);
            for (int number : written) {
                is(x.write(0, 0, number), 1);
                is(x.item(0, 0), number);
            }
        });
        EDGES.edge("the other SHEETS stay", x -> {
            for (int s = 0; s < 4; s++) {
                is(x.sheet(s, s % 2, 1), 1);
            }
            is(x.write(2, 0, 5), 1);
            is(x.item(0, 0) + x.item(1, 0) + x.item(3, 0), 0);
        });
    }

    private static void writeRefused() {
        EDGES.leaves("s -1: BAD", Edges.BAD, x -> x.write(-1, 0, 5));
        EDGES.leaves("s 4: BAD", Edges.BAD, x -> x.write(4, 0, 5));
        EDGES.leaves("missing: -11", Edges.NOTHING, x -> x.write(3, 0, 5));
        EDGES.leaves("missing: -11, before -12", Edges.NOTHING, x -> x.write(3, -1, 5));
        EDGES.leaves("place -1: -12", Edges.OUTSIDE, x -> x.write(0, -1, 5));
        EDGES.leaves("the place behind the last: -12", Edges.OUTSIDE, x -> x.write(0, 5, 5));
        EDGES.leaves("the place behind the last byte: -12", Edges.OUTSIDE, x -> x.write(1, 3, 5));
        EDGES.leaves("a row of none: -12", Edges.OUTSIDE, x -> x.write(2, 0, 5));
        EDGES.leaves("place least: -12", Edges.OUTSIDE, x -> x.write(0, Edges.LEAST, 5));
        EDGES.leaves("place most: -12", Edges.OUTSIDE, x -> x.write(0, Edges.MOST, 5));
        EDGES.edge("place 64 of 64: -12", x -> {
            is(x.sheet(0, Edges.INTS, 64), 1);
            is(x.write(0, 64, 5), Edges.OUTSIDE);
            EDGES.row(x, 0, new int[64]);
        });
    }

    private static void item() {
        EDGES.promise(31);
        EDGES.edge("a number may be as low as a refusal", x -> {
            EDGES.fill(x, 0, Edges.INTS, -1, -2, -11, -12, Edges.LEAST);
            EDGES.row(x, 0, -1, -2, -11, -12, Edges.LEAST);
        });
        EDGES.leaves("s -1: BAD", Edges.BAD, x -> x.item(-1, 0));
        EDGES.leaves("s 4: BAD", Edges.BAD, x -> x.item(4, 0));
        EDGES.leaves("missing: -11", Edges.NOTHING, x -> x.item(3, 0));
        EDGES.leaves("missing: -11, before -12", Edges.NOTHING, x -> x.item(3, 64));
        EDGES.leaves("place -1: -12", Edges.OUTSIDE, x -> x.item(0, -1));
        EDGES.leaves("the place behind the last: -12", Edges.OUTSIDE, x -> x.item(0, 5));
        EDGES.leaves("a row of none: -12", Edges.OUTSIDE, x -> x.item(2, 0));
        EDGES.leaves("place least: -12", Edges.OUTSIDE, x -> x.item(0, Edges.LEAST));
        EDGES.leaves("place most: -12", Edges.OUTSIDE, x -> x.item(0, Edges.MOST));
        EDGES.leaves("what is asked changes nothing", 4, x -> x.item(0, 4));
    }

    private static void copy() {
        EDGES.promise(32);
        EDGES.edge("all 64", x -> {
            is(x.sheet(0, Edges.BYTES, 64), 1);
            is(x.sheet(1, Edges.BYTES, 64), 1);
            int[] numbers = new int[64];
            for (int i = 0; i < 64; i++) {
                numbers[i] = i - 128;
                is(x.write(0, i, numbers[i]), 1);
            }
            is(x.copy(0, 0, 1, 0, 64), 64);
            EDGES.row(x, 1, numbers);
            is(x.copy(0, 0, 1, 1, 64), Edges.OUTSIDE);
            is(x.copy(0, 1, 1, 0, 64), Edges.OUTSIDE);
            is(x.copy(0, 0, 1, 0, 65), Edges.OUTSIDE);
            is(x.copy(0, 63, 1, 0, 1), 1);
            is(x.item(1, 0), -65);
        });
        EDGES.edge("the last number to the last place", x -> {
            EDGES.fill(x, 0, Edges.INTS, 1, 2, 3);
            EDGES.fill(x, 1, Edges.INTS, 7, 7);
            is(x.copy(0, 2, 1, 1, 1), 1);
            EDGES.row(x, 1, 7, 3);
            EDGES.row(x, 0, 1, 2, 3);
        });
        EDGES.edge("the same SHEET, upwards: as they were", x -> {
            EDGES.fill(x, 0, Edges.INTS, 1, 2, 3, 4, 5);
            is(x.copy(0, 0, 0, 1, 4), 4);
            EDGES.row(x, 0, 1, 1, 2, 3, 4);
            EDGES.fill(x, 0, Edges.BYTES, 1, 2, 3, 4, 5);
            is(x.copy(0, 0, 0, 2, 3), 3);
            EDGES.row(x, 0, 1, 2, 1, 2, 3);
        });
        EDGES.edge("the same SHEET, downwards: as they were", x -> {
            EDGES.fill(x, 0, Edges.INTS, 1, 2, 3, 4, 5);
            is(x.copy(0, 1, 0, 0, 4), 4);
            EDGES.row(x, 0, 2, 3, 4, 5, 5);
            EDGES.fill(x, 0, Edges.BYTES, 1, 2, 3, 4, 5);
            is(x.copy(0, 2, 0, 0, 3), 3);
            EDGES.row(x, 0, 3, 4, 5, 4, 5);
        });
        EDGES.edge("the same SHEET, the same place", x -> {
            EDGES.fill(x, 0, Edges.INTS, 1, 2, 3);
            is(x.copy(0, 0, 0, 0, 3), 3);
            EDGES.row(x, 0, 1, 2, 3);
        });
        EDGES.edge("ints as low and as high as can be", x -> {
            EDGES.fill(x, 0, Edges.INTS, Edges.LEAST, Edges.MOST);
            EDGES.fill(x, 1, Edges.INTS, 0, 0);
            is(x.copy(0, 0, 1, 0, 2), 2);
            EDGES.row(x, 1, Edges.LEAST, Edges.MOST);
        });
    }

    private static void copyOfNone() {
        EDGES.leaves("none: 0", 0, x -> x.copy(0, 0, 0, 0, 0));
        EDGES.leaves("none, from the very end to the very end: 0", 0, x -> x.copy(0, 5, 2, 0, 0));
        EDGES.leaves("none, to the very end: 0", 0, x -> x.copy(2, 0, 0, 5, 0));
        EDGES.leaves("none, from behind the end: -12", Edges.OUTSIDE, x -> x.copy(0, 6, 0, 0, 0));
        EDGES.leaves("none, to behind the end: -12", Edges.OUTSIDE, x -> x.copy(0, 0, 0, 6, 0));
        EDGES.leaves("none, from place -1: -12", Edges.OUTSIDE, x -> x.copy(0, -1, 0, 0, 0));
        EDGES.leaves("none, to place -1: -12", Edges.OUTSIDE, x -> x.copy(0, 0, 0, -1, 0));
    }

    private static void copyRefused() {
        EDGES.leaves("s -1: BAD", Edges.BAD, x -> x.copy(-1, 0, 0, 0, 1));
        EDGES.leaves("s 4: BAD", Edges.BAD, x -> x.copy(4, 0, 0, 0, 1));
        EDGES.leaves("t -1: BAD", Edges.BAD, x -> x.copy(0, 0, -1, 0, 1));
        EDGES.leaves("t 4: BAD", Edges.BAD, x -> x.copy(0, 0, 4, 0, 1));
        EDGES.leaves("t 4: BAD, before -11", Edges.BAD, x -> x.copy(3, 0, 4, 0, 1));
        EDGES.leaves("s 4: BAD, before -11", Edges.BAD, x -> x.copy(4, 0, 3, 0, 1));
        EDGES.leaves("the first is missing: -11", Edges.NOTHING, x -> x.copy(3, 0, 0, 0, 1));
        EDGES.leaves("the other is missing: -11", Edges.NOTHING, x -> x.copy(0, 0, 3, 0, 1));
        EDGES.leaves("both are missing: -11", Edges.NOTHING, x -> x.copy(3, 0, 3, 0, 0));
        EDGES.leaves("missing: -11, before -12", Edges.NOTHING, x -> x.copy(3, -1, 0, 9, -1));
        EDGES.leaves("bytes to ints: -13", Edges.OTHER, x -> x.copy(1, 0, 0, 0, 1));
        EDGES.leaves("ints to bytes: -13", Edges.OTHER, x -> x.copy(0, 0, 1, 0, 1));
        EDGES.leaves("none of unlike sorts: -13", Edges.OTHER, x -> x.copy(0, 0, 1, 0, 0));
        EDGES.leaves("unlike sorts: -13, before -12", Edges.OTHER, x -> x.copy(0, -1, 1, 99, -1));
    }

    private static void copyOutside() {
        EDGES.leaves("n -1: -12", Edges.OUTSIDE, x -> x.copy(0, 1, 0, 1, -1));
        EDGES.leaves("n least: -12", Edges.OUTSIDE, x -> x.copy(0, 1, 0, 0, Edges.LEAST));
        EDGES.leaves("n least from the very end: -12", Edges.OUTSIDE, x -> x.copy(0, 5, 0, 5, Edges.LEAST));
        EDGES.leaves("n most: -12", Edges.OUTSIDE, x -> x.copy(0, 0, 0, 0, Edges.MOST));
        EDGES.leaves("n most from place 1, which would wrap: -12", Edges.OUTSIDE,
                x -> x.copy(0, 1, 0, 1, Edges.MOST));
        EDGES.leaves("i -1: -12", Edges.OUTSIDE, x -> x.copy(0, -1, 0, 0, 1));
        EDGES.leaves("j -1: -12", Edges.OUTSIDE, x -> x.copy(0, 0, 0, -1, 1));
        EDGES.leaves("i least, n least: -12", Edges.OUTSIDE, x -> x.copy(0, Edges.LEAST, 0, 0, Edges.LEAST));
        EDGES.leaves("i most, n 1, which would wrap: -12", Edges.OUTSIDE, x -> x.copy(0, Edges.MOST, 0, 0, 1));
        EDGES.leaves("j most, n 1, which would wrap: -12", Edges.OUTSIDE, x -> x.copy(0, 0, 0, Edges.MOST, 1));
        EDGES.leaves("one more than there are: -12", Edges.OUTSIDE, x -> x.copy(0, 0, 0, 0, 6));
        EDGES.leaves("one more from there on: -12", Edges.OUTSIDE, x -> x.copy(0, 3, 0, 0, 3));
        EDGES.leaves("one more than there is room for: -12", Edges.OUTSIDE, x -> x.copy(0, 0, 0, 3, 3));
        EDGES.leaves("from a row of none: -12", Edges.OUTSIDE, x -> x.copy(2, 0, 0, 0, 1));
        EDGES.leaves("to a row of none: -12", Edges.OUTSIDE, x -> x.copy(0, 0, 2, 0, 1));
        EDGES.leaves("from the very end: -12", Edges.OUTSIDE, x -> x.copy(0, 5, 0, 0, 1));
        EDGES.leaves("to the very end: -12", Edges.OUTSIDE, x -> x.copy(0, 0, 0, 5, 1));
    }

    private static void list() {
        EDGES.promise(33);
        EDGES.edge("no ELEMENTS: the empty set", x -> {
            is(x.list(0, 0), 1);
            EDGES.row(x, 0, 0);
        });
        EDGES.edge("seven idle ones: the empty set", x -> {
            is(x.uniform(0, 7, 0), 1);
            is(x.list(0, 3), 1);
            EDGES.row(x, 3, 0);
        });
        EDGES.edge("seven FREE ones: all", x -> {
            is(x.uniform(0, 7, 7), 1);
            is(x.list(0, 0), 1);
            EDGES.row(x, 0, 127);
        });
        EDGES.edge("the most there can be, in order", x -> {
            is(x.uniform(0, 7, 4), 1);
            is(x.list(0, 0), 35);
            int place = 0;
            for (int set = 0; set < 128; set++) {
                if (Integer.bitCount(set) == 4) {
                    is(x.item(0, place), set);
                    place++;
                }
            }
            is(x.item(0, 35), Edges.OUTSIDE);
        });
        EDGES.edge("a longer SHEET becomes as long as there are BASES, bytes become ints", x -> {
            is(x.uniform(0, 3, 2), 1);
            is(x.sheet(0, Edges.BYTES, 64), 1);
            is(x.list(0, 0), 3);
            EDGES.row(x, 0, 3, 5, 6);
            is(x.write(0, 0, 256), 1);
            is(x.item(0, 0), 256);
        });
        EDGES.edge("what is told is the VIEW again", x -> {
            is(x.uniform(0, 7, 5), 1);
            is(x.list(0, 0), 21);
            is(x.tell(1, 0, 7), 5);
            is(x.same(0, 1), 1);
        });
        EDGES.edge("what was missing no longer is; the VIEW stays", x -> {
            is(x.uniform(0, 3, 2), 1);
            is(x.list(0, 0), 3);
            is(x.count(3), 1);
            EDGES.uniform(x, 0, 3, 2);
        });
        EDGES.leaves("v -1: BAD", Edges.BAD, x -> x.list(-1, 0));
        EDGES.leaves("v 4: BAD", Edges.BAD, x -> x.list(4, 0));
        EDGES.leaves("s -1: BAD", Edges.BAD, x -> x.list(0, -1));
        EDGES.leaves("s 4: BAD", Edges.BAD, x -> x.list(0, 4));
        EDGES.leaves("extremes: BAD", Edges.BAD, x -> x.list(Edges.LEAST, Edges.MOST));
    }
}
