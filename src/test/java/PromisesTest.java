/** The promises of the document one by one: ordinary calls, the edges it names, wrong calls. */
public final class PromisesTest {
    private static final int NONE = -1, BAD = -2, STATE = -3, MUCH = -5;
    private static final int LEAST = Integer.MIN_VALUE, MOST = Integer.MAX_VALUE;
    /** Seven points, lines 0 1 3, 0 2 4, 1 2 5, 0 5 6, 1 4 6, 2 3 6, 3 4 5, told over TWO. */
    private static final int[] SEVEN_POINTS = {1, 2, 4, 3, 5, 6, 7};

    private static int promise;
    private static int wrong;
    private static int calls;

    private PromisesTest() {
    }

    public static void main(String[] args) {
        newObject();
        reckon();
        uniform();
        columns();
        tell();
        cause();
        rankSpanSorts();
        manyAndAt();
        best();
        dual();
        minor();
        union();
        renumber();
        sameAndAlike();
        writings();
        writes();
        clash();
        excluded();
        seedAndDeal();
        chance();
        holdAndHeld();
        take();
        sheetWriteItem();
        copy();
        list();
        imageAndBack();
        count();
        System.out.println(calls + " answers looked at, wrong: " + wrong);
        if (wrong != 0) {
            System.exit(1);
        }
    }

    private static void due(String call, int got, int want) {
        calls++;
        if (got != want) {
            wrong++;
            System.out.println("promise " + promise + ": " + call + " answered " + got + ", due is " + want);
        }
    }

    private static Counted withSheet(int s, int sort, int... numbers) {
        Counted x = new Counted();
        fill(x, s, sort, numbers);
        return x;
    }

    private static void fill(Counted x, int s, int sort, int... numbers) {
        due("sheet", x.sheet(s, sort, numbers.length), 1);
        for (int i = 0; i < numbers.length; i++) {
            due("write", x.write(s, i, numbers[i]), 1);
        }
    }

    private static void items(String call, Counted x, int s, int... numbers) {
        for (int i = 0; i < numbers.length; i++) {
            due(call + " place " + i, x.item(s, i), numbers[i]);
        }
        due(call + " behind its end", x.item(s, numbers.length), -12);
    }

    /** VIEW v becomes that of the seven points, by SHEET 3. */
    private static void sevenPoints(Counted x, int v) {
        fill(x, 3, 1, SEVEN_POINTS);
        due("columns", x.columns(v, 0, 3, 7), 3);
    }

    /** As sevenPoints, but 3 4 5 is a BASE. */
    private static void loosened(Counted x, int v) {
        sevenPoints(x, v);
        due("list", x.list(v, 3), 28);
        due("sheet", x.sheet(2, 1, 29), 1);
        due("copy", x.copy(3, 0, 2, 0, 28), 28);
        due("write", x.write(2, 28, 0b0111000), 1);
        due("tell", x.tell(v, 2, 7), 3);
    }

    private static void newObject() {
        promise = 1;
        Counted x = new Counted();
        for (int k = 0; k < 4; k++) {
            due("many 0", x.many(k, 0), 0);
            due("rank of the empty set", x.rank(k, 0), 0);
            due("rank of none such", x.rank(k, 1), BAD);
            due("held", x.held(k, 0), -11);
            due("item", x.item(k, 0), -11);
        }
        due("cause 0", x.cause(0), 0);
        due("cause 1", x.cause(1), -1);
        due("cause 2", x.cause(2), -1);
        due("cause 3", x.cause(3), -1);
        due("back", x.back(), STATE);
        due("count 0", x.count(0), 0);
        due("count 1", x.count(1), 1);
        due("count 2", x.count(2), 0);
        due("count 3", x.count(3), 0);
    }

    private static void reckon() {
        promise = 2;
        Counted x = new Counted();
        int[] rests = {2, 3, 5};
        for (int field = 0; field < 3; field++) {
            int size = rests[field];
            for (int a = 0; a < size; a++) {
                for (int b = 0; b < size; b++) {
                    due("sum", x.reckon(field, 0, a, b), (a + b) % size);
                    due("difference", x.reckon(field, 1, a, b), (a - b + size) % size);
                    due("product", x.reckon(field, 2, a, b), a * b % size);
                    int quotient = x.reckon(field, 3, a, b);
                    due("quotient", b == 0 ? quotient : quotient * b % size, b == 0 ? -15 : a);
                }
            }
            due("a too high", x.reckon(field, 0, size, 0), BAD);
            due("b too high", x.reckon(field, 0, 0, size), BAD);
        }
        int[] products = {0, 0, 0, 0, 0, 1, 2, 3, 0, 2, 3, 1, 0, 3, 1, 2};
        int[] quotients = {-15, 0, 0, 0, -15, 1, 3, 2, -15, 2, 1, 3, -15, 3, 2, 1};
        for (int a = 0; a < 4; a++) {
            for (int b = 0; b < 4; b++) {
                due("sum of FOUR", x.reckon(3, 0, a, b), a ^ b);
                due("difference of FOUR", x.reckon(3, 1, a, b), a ^ b);
                due("product of FOUR", x.reckon(3, 2, a, b), products[4 * a + b]);
                due("quotient of FOUR", x.reckon(3, 3, a, b), quotients[4 * a + b]);
            }
        }
        due("FOUR has no 4", x.reckon(3, 0, 4, 0), BAD);
        due("FOUR has no 4", x.reckon(3, 0, 0, 4), BAD);
        due("field -1", x.reckon(-1, 0, 0, 0), BAD);
        due("field 4", x.reckon(4, 0, 0, 0), BAD);
        due("what -1", x.reckon(0, -1, 0, 0), BAD);
        due("what 4", x.reckon(0, 4, 0, 0), BAD);
        due("a -1", x.reckon(0, 0, -1, 0), BAD);
        due("b -1", x.reckon(0, 0, 0, -1), BAD);
        due("BAD comes before -15", x.reckon(1, 3, 3, 0), BAD);
        due("extremes", x.reckon(LEAST, MOST, LEAST, MOST), BAD);
    }

    private static void uniform() {
        promise = 3;
        for (int n = 0; n <= 7; n++) {
            for (int r = 0; r <= n; r++) {
                Counted y = new Counted();
                due("uniform", y.uniform(2, n, r), 1);
                due("ELEMENTS", y.many(2, 0), n);
                for (int set = 0; set < 1 << n; set++) {
                    due("rank", y.rank(2, set), Math.min(r, Integer.bitCount(set)));
                }
            }
        }
        Counted x = new Counted();
        due("uniform", x.uniform(0, 4, 2), 1);
        due("v -1", x.uniform(-1, 4, 2), BAD);
        due("v 4", x.uniform(4, 4, 2), BAD);
        due("n -1", x.uniform(0, -1, 0), BAD);
        due("n 8", x.uniform(0, 8, 2), BAD);
        due("r -1", x.uniform(0, 3, -1), BAD);
        due("r above n", x.uniform(0, 3, 4), BAD);
        due("n most", x.uniform(0, MOST, 0), BAD);
        due("nothing has changed", x.rank(0, 15), 2);
        due("nothing has changed", x.many(0, 0), 4);
    }

    private static void columns() {
        promise = 4;
        Counted x = withSheet(1, 1, 1, 4, 7, 10);
        due("over THREE: 1 2 and 2 1 aren't one another's", x.columns(0, 1, 1, 4), 3);
        due("1, 1 1, 1 2 over THREE", x.rank(0, 7), 2);
        due("1 1, 1 2 over THREE", x.rank(0, 6), 2);
        due("the fourth has a third number", x.rank(0, 9), 2);
        due("fewer of them", x.columns(0, 1, 1, 2), 2);
        due("fewer of them", x.many(0, 0), 2);
        due("none of them", x.columns(0, 1, 1, 0), 0);
        due("none of them", x.many(0, 0), 0);
        fill(x, 1, 1, 7, 14);
        due("1 2 and 2 4 over FIVE: 11 and 22", x.write(1, 0, 11), 1);
        due("1 2 and 2 4 over FIVE: 11 and 22", x.write(1, 1, 22), 1);
        due("one is twice the other", x.columns(0, 2, 1, 2), 1);
        fill(x, 1, 1, 9, 14, 7);
        due("1 2, 2 3, 3 1 over FOUR are one another's", x.columns(0, 3, 1, 3), 1);
        fill(x, 1, 1, 1, 2, 4, 8, 16, 32, 64);
        due("seven of TWO", x.columns(0, 0, 1, 7), 7);
        int[] most = {127, 2186, 78124, 16383};
        for (int field = 0; field < 4; field++) {
            fill(x, 0, 1, most[field]);
            due("the highest COLUMN", x.columns(3, field, 0, 1), 1);
            fill(x, 0, 1, 0, most[field] + 1);
            due("the lowest COLUMN", x.columns(3, field, 0, 1), 0);
            due("no COLUMN", x.columns(3, field, 0, 2), STATE);
            fill(x, 0, 1, -1);
            due("no COLUMN", x.columns(3, field, 0, 1), STATE);
        }
        due("a refused one changes nothing", x.many(3, 0), 1);
        fill(x, 0, 0, 200);
        due("a byte below 0", x.columns(3, 2, 0, 1), STATE);
        due("v -1", x.columns(-1, 0, 1, 1), BAD);
        due("v 4", x.columns(4, 0, 1, 1), BAD);
        due("field -1", x.columns(0, -1, 1, 1), BAD);
        due("field 4", x.columns(0, 4, 1, 1), BAD);
        due("s -1", x.columns(0, 0, -1, 1), BAD);
        due("s 4", x.columns(0, 0, 4, 1), BAD);
        due("n -1", x.columns(0, 0, 1, -1), BAD);
        due("n 8", x.columns(0, 0, 1, 8), BAD);
        due("BAD before -11", x.columns(0, 0, 2, 8), BAD);
        due("missing", x.columns(0, 0, 2, 0), -11);
        fill(x, 1, 1, -1);
        due("-12 before STATE", x.columns(0, 0, 1, 2), -12);
        due("what lies behind n isn't looked at", x.columns(0, 0, 1, 0), 0);
    }

    private static void tell() {
        promise = 5;
        Counted x = withSheet(0, 1, 3, 5, 6, 9, 10);
        due("all twos of 0 1 2, and 3 beside 2", x.tell(1, 0, 4), 2);
        due("2 and 3 are beside one another", x.rank(1, 12), 1);
        due("0 1 2", x.rank(1, 7), 2);
        due("ELEMENTS", x.many(1, 0), 4);
        due("BASES", x.many(1, 2), 5);
        due("more ELEMENTS, of no use", x.tell(1, 0, 7), 2);
        due("of no use", x.rank(1, 112), 0);
        fill(x, 0, 1, 0);
        due("the empty set alone", x.tell(1, 0, 3), 0);
        due("RANK 0", x.rank(1, 7), 0);
        due("no ELEMENTS", x.tell(1, 0, 0), 0);
        fill(x, 0, 0, 1, 2, 1);
        due("twice told, as bytes", x.tell(1, 0, 2), 1);
        due("v -1", x.tell(-1, 0, 2), BAD);
        due("v 4", x.tell(4, 0, 2), BAD);
        due("s -1", x.tell(1, -1, 2), BAD);
        due("s 4", x.tell(1, 4, 2), BAD);
        due("n -1", x.tell(1, 0, -1), BAD);
        due("n 8", x.tell(1, 0, 8), BAD);
        due("BAD before -11", x.tell(1, 3, 8), BAD);
        due("missing", x.tell(1, 3, 2), -11);
        due("not as many ELEMENTS", x.tell(1, 0, 1), STATE);
        due("a refused one changes nothing", x.many(1, 0), 2);
    }

    private static void causes(String call, Counted x, int sort, int place, int second, int element) {
        due(call + " sort", x.cause(0), sort);
        due(call + " place", x.cause(1), place);
        due(call + " second", x.cause(2), second);
        due(call + " element", x.cause(3), element);
    }

    private static void cause() {
        promise = 6;
        Counted x = new Counted();
        causes("new", x, 0, -1, -1, -1);
        fill(x, 0, 1);
        due("none is told", x.tell(0, 0, 3), STATE);
        causes("none is told", x, 1, -1, -1, -1);
        fill(x, 0, 1, 8, 3);
        due("no set", x.tell(0, 0, 3), STATE);
        causes("the first is no set", x, 2, 0, -1, -1);
        fill(x, 0, 1, 3, 1, 8);
        due("not as many", x.tell(0, 0, 3), STATE);
        causes("number by number", x, 3, 1, -1, -1);
        fill(x, 0, 1, 3, -5, 1);
        due("no set", x.tell(0, 0, 3), STATE);
        causes("below 0", x, 2, 1, -1, -1);
        fill(x, 0, 1, 0b0011, 0b0101, 0b1100, 0b1001);
        due("no exchange", x.tell(0, 0, 4), STATE);
        causes("0 1 and 2 3: not 1 2 nor 1 3", x, 4, 0, 2, 0);
        due("image", x.image(), 0);
        due("back", x.back(), 0);
        due("BAD", x.tell(0, 0, 9), BAD);
        due("missing", x.tell(0, 1, 4), -11);
        due("columns", x.columns(0, 2, 0, 4), 2);
        causes("refused otherwise, and other calls", x, 4, 0, 2, 0);
        fill(x, 0, 1, 0b0011, 0b0101, 0b0011, 0b1001, 0b0110);
        due("no exchange", x.tell(0, 0, 4), STATE);
        causes("0 3 and 1 2: not 1 3 nor 2 3", x, 4, 3, 4, 0);
        fill(x, 0, 1, 0b0110, 0b0101, 0b0011, 0b1010);
        due("no exchange", x.tell(0, 0, 4), STATE);
        causes("1 3 and 0 2: instead of 1 neither 0 3 nor 2 3; 0 2 and 1 3 are fine", x, 4, 3, 1, 1);
        fill(x, 0, 1, 0b0110, 0b0101, 0b1010, 0b1001, 0b1100);
        due("all but 0 1", x.tell(0, 0, 4), 2);
        fill(x, 0, 1, 0b0110, 0b0101, 0b0011, 0b1001);
        due("no exchange", x.tell(0, 0, 4), STATE);
        causes("the other may come first", x, 4, 3, 0, 0);
        fill(x, 0, 1, 0b0011, 0b0101);
        due("taken", x.tell(0, 0, 4), 2);
        causes("taken", x, 0, -1, -1, -1);
        due("what -1", x.cause(-1), BAD);
        due("what 4", x.cause(4), BAD);
    }

    private static void rankSpanSorts() {
        promise = 7;
        Counted x = new Counted();
        sevenPoints(x, 1);
        due("a line", x.rank(1, 11), 2);
        due("no line", x.rank(1, 7), 3);
        due("all", x.rank(1, 127), 3);
        due("none", x.rank(1, 0), 0);
        promise = 8;
        due("two span a line", x.span(1, 3), 11);
        due("one spans itself", x.span(1, 64), 64);
        due("three span all", x.span(1, 7), 127);
        due("none span none", x.span(1, 0), 0);
        due("uniform", x.uniform(0, 3, 0), 1);
        due("idle ones are spanned by none", x.span(0, 0), 7);
        promise = 9;
        due("BASE", x.sorts(1, 7), 1 + 2);
        due("FREE", x.sorts(1, 3), 1);
        due("FREE and FLAT", x.sorts(1, 1), 1 + 8);
        due("the empty set", x.sorts(1, 0), 1 + 8);
        due("a line", x.sorts(1, 11), 4 + 8 + 16);
        due("four off a line", x.sorts(1, 0b1110100), 4);
        due("more than a CIRCUIT", x.sorts(1, 15), 0);
        due("all", x.sorts(1, 127), 8);
        due("idle: one is a CIRCUIT", x.sorts(0, 1), 4);
        due("idle: none is a BASE", x.sorts(0, 0), 1 + 2);
        due("idle: all are a FLAT, and there is no HYPERPLANE", x.sorts(0, 7), 8);
        due("no ELEMENTS", x.sorts(3, 0), 1 + 2 + 8);
        due("uniform", x.uniform(2, 1, 1), 1);
        due("RANK 1: the empty set is a HYPERPLANE", x.sorts(2, 0), 1 + 8 + 16);
        int[] views = {-1, 4, LEAST, MOST};
        int[] sets = {-1, 128, LEAST, MOST};
        for (int k = 0; k < 4; k++) {
            promise = 7;
            due("v", x.rank(views[k], 0), BAD);
            due("set", x.rank(1, sets[k]), BAD);
            promise = 8;
            due("v", x.span(views[k], 0), BAD);
            due("set", x.span(1, sets[k]), BAD);
            promise = 9;
            due("v", x.sorts(views[k], 0), BAD);
            due("set", x.sorts(1, sets[k]), BAD);
        }
        due("one that is no ELEMENT", x.sorts(0, 8), BAD);
        promise = 8;
        due("one that is no ELEMENT", x.span(0, 9), BAD);
        promise = 7;
        due("one that is no ELEMENT", x.rank(0, 15), BAD);
    }

    private static void manyAndAt() {
        promise = 10;
        Counted x = new Counted();
        sevenPoints(x, 1);
        int[] sevenPoints = {7, 1 + 7 + 21 + 28, 28, 14, 16, 7};
        int[] noElements = {0, 1, 1, 0, 1, 0};
        for (int what = 0; what < 6; what++) {
            due("seven points, " + what, x.many(1, what), sevenPoints[what]);
            due("no ELEMENTS, " + what, x.many(0, what), noElements[what]);
        }
        due("v -1", x.many(-1, 0), BAD);
        due("v 4", x.many(4, 0), BAD);
        due("what -1", x.many(1, -1), BAD);
        due("what 6", x.many(1, 6), BAD);
        promise = 11;
        int[] free = {0, 1, 2, 3, 4, 5, 6, 7, 8, 9, 10};
        for (int k = 0; k < free.length; k++) {
            due("FREE", x.at(1, 1, k), free[k]);
        }
        due("FREE", x.at(1, 1, 11), 12);
        due("the last FREE one", x.at(1, 1, 56), 0b1110000);
        due("BASE", x.at(1, 2, 0), 7);
        due("the last BASE", x.at(1, 2, 27), 0b1110000);
        due("CIRCUIT", x.at(1, 3, 0), 11);
        due("the last CIRCUIT", x.at(1, 3, 13), 0b1110100);
        due("FLAT", x.at(1, 4, 0), 0);
        due("FLAT", x.at(1, 4, 3), 4);
        due("FLAT", x.at(1, 4, 5), 11);
        due("the last FLAT", x.at(1, 4, 15), 127);
        due("HYPERPLANE", x.at(1, 5, 1), 21);
        due("the last HYPERPLANE", x.at(1, 5, 6), 0b1100001);
        for (int what = 1; what < 6; what++) {
            due("behind the last", x.at(1, what, sevenPoints[what]), NONE);
            due("k -1", x.at(1, what, -1), NONE);
            due("k most", x.at(1, what, MOST), NONE);
            due("k least", x.at(1, what, LEAST), NONE);
        }
        due("there is no HYPERPLANE", x.at(0, 5, 0), NONE);
        due("what 0", x.at(1, 0, 0), BAD);
        due("what 6", x.at(1, 6, 0), BAD);
        due("v -1", x.at(-1, 1, 0), BAD);
        due("v 4", x.at(4, 1, -1), BAD);
    }

    private static void best() {
        promise = 12;
        Counted x = withSheet(0, 1, 5, 7, -3, 7, 1);
        due("uniform", x.uniform(0, 5, 2), 1);
        due("1 and 3", x.best(0, 0, 0), 0b01010);
        due("1 and 3", x.best(0, 0, 1), 14);
        fill(x, 0, 1, 2, 2, 2);
        due("of like ones the least; those that lack weigh 0", x.best(0, 0, 0), 3);
        due("of like ones the least; those that lack weigh 0", x.best(0, 0, 1), 4);
        fill(x, 0, 1, -4, -2, -3, -1, -9);
        due("all below 0", x.best(0, 0, 0), 0b01010);
        due("all below 0", x.best(0, 0, 1), -3);
        fill(x, 0, 1, MOST, 1, 0, 0, 0);
        due("MOST and 1 wrap", x.best(0, 0, 0), 0b00101);
        due("MOST and 1 wrap", x.best(0, 0, 1), MOST);
        fill(x, 0, 0, 200, 3, 130, 3, 2);
        due("bytes", x.best(0, 0, 0), 0b01010);
        due("bytes", x.best(0, 0, 1), 6);
        fill(x, 0, 1);
        due("none tells a weight", x.best(0, 0, 0), 3);
        fill(x, 0, 1, -1, 0, 0, 0, -1);
        due("uniform", x.uniform(1, 5, 4), 1);
        due("the least of two", x.best(1, 0, 0), 0b01111);
        fill(x, 0, 1, -1);
        due("those that lack weigh 0", x.best(0, 0, 0), 0b00110);
        due("those that lack weigh 0", x.best(0, 0, 1), 0);
        due("the last BASE", x.best(1, 0, 0), 0b11110);
        due("uniform", x.uniform(1, 0, 0), 1);
        due("no ELEMENTS", x.best(1, 0, 0), 0);
        due("no ELEMENTS", x.best(1, 0, 1), 0);
        fill(x, 0, 1, LEAST, 0, 0, 0, 0, 9, 9, 9);
        due("a lowest weight may be all there is", x.uniform(2, 1, 1), 1);
        due("a lowest weight may be all there is", x.best(2, 0, 1), LEAST);
        fill(x, 0, 1, 0, 5, 4);
        due("uniform", x.uniform(2, 3, 1), 1);
        due("the second BASE", x.best(2, 0, 0), 2);
        due("v -1", x.best(-1, 0, 0), BAD);
        due("v 4", x.best(4, 0, 0), BAD);
        due("s -1", x.best(0, -1, 0), BAD);
        due("s 4", x.best(0, 4, 0), BAD);
        due("what -1", x.best(0, 0, -1), BAD);
        due("what 2", x.best(0, 1, 2), BAD);
        due("missing", x.best(0, 1, 0), -11);
    }

    private static void dual() {
        promise = 13;
        Counted x = new Counted();
        due("uniform", x.uniform(0, 5, 2), 1);
        due("dual", x.dual(0, 1), 3);
        due("uniform", x.uniform(2, 5, 3), 1);
        due("as it should be", x.same(1, 2), 1);
        due("v stays", x.rank(0, 31), 2);
        due("w is v", x.dual(1, 1), 2);
        due("w is v", x.same(0, 1), 1);
        sevenPoints(x, 0);
        due("of seven points", x.dual(0, 0), 4);
        due("what isn't a line is a CIRCUIT, or spans", x.sorts(0, 127 ^ 11), 4 + 8 + 16);
        due("all else", x.many(0, 2), 28);
        due("of no ELEMENTS", x.dual(3, 3), 0);
        due("v -1", x.dual(-1, 0), BAD);
        due("v 4", x.dual(4, 0), BAD);
        due("w -1", x.dual(0, -1), BAD);
        due("w 4", x.dual(0, 4), BAD);
    }

    private static void minor() {
        promise = 14;
        Counted x = new Counted();
        sevenPoints(x, 0);
        due("into 0, without 6", x.minor(0, 1, 1, 64), 5);
        due("1 and 3 are now beside one another", x.rank(1, 0b00101), 1);
        due("2 and 4 are now beside one another", x.rank(1, 0b01010), 1);
        due("1 and 2 aren't", x.rank(1, 0b00011), 2);
        due("5, whose line with 0 was with 6", x.rank(1, 0b10001), 2);
        due("all", x.rank(1, 31), 2);
        due("v stays", x.many(0, 0), 7);
        due("into a line: the rest is of RANK 1", x.minor(0, 2, 11, 0), 4);
        due("into a line: the rest is of RANK 1", x.rank(2, 15), 1);
        due("nothing is gone", x.minor(0, 3, 0, 0), 7);
        due("nothing is gone", x.same(0, 3), 1);
        due("w is v", x.minor(3, 3, 0, 0b1000001), 5);
        due("w is v", x.rank(3, 0b00110), 2);
        due("1 2 5, numbered anew", x.rank(3, 0b10011), 2);
        due("all is gone", x.minor(3, 3, 1, 30), 0);
        due("all is gone", x.many(3, 0), 0);
        due("v -1", x.minor(-1, 1, 0, 0), BAD);
        due("v 4", x.minor(4, 1, 0, 0), BAD);
        due("w -1", x.minor(0, -1, 0, 0), BAD);
        due("w 4", x.minor(0, 4, 0, 0), BAD);
        due("x is none", x.minor(0, 1, 128, 0), BAD);
        due("y is none", x.minor(0, 1, 0, 128), BAD);
        due("x below 0", x.minor(0, 1, LEAST, 0), BAD);
        due("y below 0", x.minor(0, 1, 0, -1), BAD);
        due("one in both", x.minor(0, 1, 3, 6), BAD);
        due("nothing has changed", x.many(1, 0), 5);
    }

    private static void union() {
        promise = 15;
        Counted x = new Counted();
        due("uniform", x.uniform(0, 5, 1), 1);
        due("uniform", x.uniform(1, 5, 2), 1);
        due("uniform", x.uniform(2, 5, 3), 1);
        due("union", x.union(0, 1, 3), 3);
        due("as it should be", x.same(2, 3), 1);
        due("u is v, and more than there are", x.union(2, 3, 2), 5);
        due("all are FREE", x.many(2, 1), 32);
        due("with itself", x.union(0, 0, 0), 2);
        due("with itself", x.same(0, 1), 1);
        fill(x, 0, 1, 1, 1, 2, 0, 0);
        due("columns", x.columns(0, 0, 0, 5), 2);
        fill(x, 0, 1, 0, 0, 1, 1, 0);
        due("columns", x.columns(1, 0, 0, 5), 1);
        due("idle in both stays idle", x.union(0, 1, 1), 3);
        due("0 and 1", x.rank(1, 0b00011), 1);
        due("2 and 3", x.rank(1, 0b01100), 2);
        due("4", x.rank(1, 0b10000), 0);
        due("0 2 3", x.rank(1, 0b01101), 3);
        due("uniform", x.uniform(2, 4, 1), 1);
        due("unlike many", x.union(1, 2, 0), STATE);
        due("BAD before STATE", x.union(1, 2, 4), BAD);
        due("v -1", x.union(-1, 1, 0), BAD);
        due("v 4", x.union(4, 1, 0), BAD);
        due("w -1", x.union(1, -1, 0), BAD);
        due("w 4", x.union(1, 4, 0), BAD);
        due("u -1", x.union(1, 1, -1), BAD);
        due("nothing has changed", x.rank(0, 31), 2);
    }

    private static void renumber() {
        promise = 16;
        Counted x = withSheet(0, 1, 2, 0, 1, 3);
        fill(x, 1, 1, 1, 1, 2, 0);
        due("0 and 1 beside one another, 3 idle", x.columns(0, 0, 1, 4), 2);
        due("renumber", x.renumber(0, 1, 0), 1);
        due("2 and 0 are beside one another", x.rank(1, 0b0101), 1);
        due("0 and 1 aren't", x.rank(1, 0b0011), 2);
        due("3 is idle still", x.rank(1, 0b1000), 0);
        due("all", x.rank(1, 0b1111), 2);
        due("v stays", x.rank(0, 0b0011), 1);
        due("w is v", x.renumber(0, 0, 0), 1);
        due("w is v", x.same(0, 1), 1);
        fill(x, 0, 0, 3, 2, 1, 0, 99, -7);
        due("bytes; more numbers than ELEMENTS", x.renumber(0, 0, 0), 1);
        due("0 is idle now", x.rank(0, 1), 0);
        fill(x, 2, 1);
        due("no ELEMENTS, no numbers", x.renumber(3, 2, 2), 1);
        due("missing", x.renumber(0, 0, 3), -11);
        fill(x, 0, 1, 0, 0, 0);
        due("-12 before STATE", x.renumber(0, 0, 0), -12);
        int[][] wrongOnes = {{0, 1, 2, 2}, {0, 1, 2, 4}, {-1, 0, 1, 2}, {0, 1, 2, LEAST}, {0, 1, 2, 35}, {3, 2, 1, 1, 0}};
        for (int[] numbers : wrongOnes) {
            fill(x, 0, 1, numbers);
            due("not each once", x.renumber(0, 1, 0), STATE);
        }
        due("BAD before -11", x.renumber(0, 4, 3), BAD);
        due("v -1", x.renumber(-1, 0, 0), BAD);
        due("v 4", x.renumber(4, 0, 0), BAD);
        due("w -1", x.renumber(0, -1, 0), BAD);
        due("s -1", x.renumber(0, 0, -1), BAD);
        due("s 4", x.renumber(0, 0, 4), BAD);
        due("nothing has changed", x.rank(0, 1), 0);
    }

    private static void sameAndAlike() {
        promise = 17;
        Counted x = withSheet(0, 1, 1, 1, 2);
        due("both of no ELEMENTS", x.same(0, 1), 1);
        due("columns", x.columns(0, 0, 0, 3), 2);
        fill(x, 0, 1, 1, 2, 1);
        due("columns", x.columns(1, 0, 0, 3), 2);
        due("of unlike RANKS", x.same(0, 1), 0);
        due("itself", x.same(0, 0), 1);
        due("uniform", x.uniform(2, 2, 0), 1);
        due("uniform", x.uniform(3, 3, 0), 1);
        due("of unlike many", x.same(2, 3), 0);
        due("of unlike many", x.same(3, 2), 0);
        due("uniform", x.uniform(2, 3, 2), 1);
        due("uniform", x.uniform(3, 3, 3), 1);
        due("of unlike RANKS of all alone", x.same(2, 3), 0);
        due("uniform", x.uniform(2, 2, 0), 1);
        due("uniform", x.uniform(3, 3, 0), 1);
        due("v -1", x.same(-1, 0), BAD);
        due("v 4", x.same(4, 0), BAD);
        due("w -1", x.same(0, -1), BAD);
        due("w 4", x.same(0, 4), BAD);
        promise = 18;
        due("numbered otherwise", x.alike(0, 1), 1);
        due("of unlike many", x.alike(2, 3), 0);
        due("of unlike RANKS", x.alike(0, 3), 0);
        due("uniform", x.uniform(3, 3, 2), 1);
        due("new numbers are unlike one another", x.alike(0, 3), 0);
        due("new numbers are unlike one another", x.alike(3, 0), 0);
        due("v -1", x.alike(-1, 0), BAD);
        due("v 4", x.alike(4, 0), BAD);
        due("w -1", x.alike(0, -1), BAD);
        due("w 4", x.alike(0, 4), BAD);
        fill(x, 0, 1, 1, 2, 4, 3, 5, 6);
        due("the six of K4", x.columns(0, 0, 0, 6), 3);
        fill(x, 0, 1, 6, 4, 3, 1, 5, 2);
        due("in another order", x.columns(1, 0, 0, 6), 3);
        due("six ELEMENTS", x.alike(0, 1), 1);
        due("six ELEMENTS", x.same(0, 1), 0);
        due("its DUAL is alike", x.dual(0, 2), 3);
        due("its DUAL is alike", x.alike(2, 0), 1);
        fill(x, 0, 1, 1, 3, 9, 4, 12, 10);
        due("three lines of three alone, over THREE", x.columns(2, 1, 0, 6), 3);
        due("not alike", x.alike(2, 0), 0);
        sevenPoints(x, 2);
        due("seven and six", x.alike(2, 0), 0);
        due("six and seven", x.alike(0, 2), 0);
        due("itself, of seven", x.alike(2, 2), MUCH);
        due("uniform", x.uniform(3, 7, 1), 1);
        due("both of seven", x.alike(2, 3), MUCH);
    }

    private static void manyWritings(String call, Counted x, int v, int... want) {
        for (int field = 0; field < 4; field++) {
            due(call + " over FIELD " + field, x.writings(v, field), want[field]);
        }
    }

    private static void writings() {
        promise = 19;
        Counted x = new Counted();
        manyWritings("no ELEMENTS", x, 0, 1, 1, 1, 1);
        due("uniform", x.uniform(0, 7, 0), 1);
        manyWritings("idle ones", x, 0, 1, 1, 1, 1);
        due("uniform", x.uniform(0, 7, 7), 1);
        manyWritings("all FREE", x, 0, 1, 1, 1, 1);
        due("uniform", x.uniform(0, 7, 1), 1);
        manyWritings("beside one another", x, 0, 1, 1, 1, 1);
        // on a line of q + 1 points three can be moved anywhere; the others stand in any order
        int[][] onALine = {{1, 1, 1, 1}, {0, 1, 3, 2}, {0, 0, 6, 2}, {0, 0, 6, 0}, {0, 0, 0, 0}};
        for (int n = 3; n <= 7; n++) {
            due("uniform", x.uniform(0, n, 2), 1);
            manyWritings(n + " on a line", x, 0, onALine[n - 3]);
            due("dual", x.dual(0, 0), n - 2);
            manyWritings("its DUAL, " + n, x, 0, onALine[n - 3]);
        }
        due("uniform", x.uniform(0, 6, 3), 1);
        manyWritings("six in a plane, no three on a line", x, 0, 0, 0, 6, 2);
        due("uniform", x.uniform(0, 7, 3), 1);
        manyWritings("seven in a plane, no three on a line", x, 0, 0, 0, 0, 0);
        sevenPoints(x, 0);
        manyWritings("seven points", x, 0, 1, 0, 0, 1);
        due("dual", x.dual(0, 0), 4);
        manyWritings("the DUAL of seven points", x, 0, 1, 0, 0, 1);
        loosened(x, 0);
        manyWritings("seven points loosened", x, 0, 0, 1, 1, 0);
        due("v -1", x.writings(-1, 0), BAD);
        due("v 4", x.writings(4, 0), BAD);
        due("field -1", x.writings(0, -1), BAD);
        due("field 4", x.writings(0, 4), BAD);
    }

    private static void writes() {
        promise = 20;
        Counted x = new Counted();
        due("no ELEMENTS", x.writes(0, 0, 0), 0);
        items("no ELEMENTS", x, 0);
        due("uniform", x.uniform(0, 4, 2), 1);
        due("over FIVE: 1 2 is the first", x.writes(0, 2, 0), 4);
        items("over FIVE", x, 0, 1, 5, 6, 11);
        due("over FOUR", x.writes(0, 3, 0), 4);
        items("over FOUR", x, 0, 1, 4, 5, 9);
        due("uniform", x.uniform(0, 6, 2), 1);
        fill(x, 1, 0, 9, 9);
        due("what was of bytes becomes ints", x.writes(0, 2, 1), 6);
        items("2, then 3, then 4", x, 1, 1, 5, 6, 11, 16, 21);
        due("uniform", x.uniform(0, 6, 3), 1);
        due("over FIVE", x.writes(0, 2, 1), 6);
        items("1 2 3, then 1 3 2: 1 2 4 would lack a sixth with 1 3 2", x, 1, 1, 5, 25, 31,
                1 + 2 * 5 + 3 * 25, sixthOverFive(2, 3));
        fill(x, 0, 1, 0, 2, 2, 1, 0);
        due("columns", x.columns(2, 1, 0, 5), 1);
        due("idle ones and ones beside one another", x.writes(2, 1, 0), 5);
        items("idle ones and ones beside one another", x, 0, 0, 1, 1, 1, 0);
        fill(x, 0, 1, 3, 6, 1, 4, 2, 1);
        due("columns", x.columns(2, 0, 0, 6), 3);
        due("BASE is the first one: 0 1 2", x.writes(2, 0, 0), 6);
        items("over TWO there is but one way", x, 0, 1, 2, 4, 7, 5, 4);
        due("uniform", x.uniform(0, 4, 2), 1);
        due("NONE", x.writes(0, 0, 0), NONE);
        items("what is refused changes nothing", x, 0, 1, 2, 4, 7, 5, 4);
        due("NONE", x.writes(0, 0, 3), NONE);
        due("still missing", x.item(3, 0), -11);
        due("v -1", x.writes(-1, 0, 0), BAD);
        due("v 4", x.writes(4, 0, 0), BAD);
        due("field -1", x.writes(0, -1, 0), BAD);
        due("field 4", x.writes(0, 4, 0), BAD);
        due("s -1", x.writes(0, 0, -1), BAD);
        due("s 4, before NONE", x.writes(0, 0, 4), BAD);
    }

    /** The least 1 c d over FIVE with no three on a line among 100, 010, 001, 111, 1ab and it. */
    private static int sixthOverFive(int a, int b) {
        for (int c = 2; c < 5; c++) {
            for (int d = 2; d < 5; d++) {
                boolean offOld = c != d && c != a && d != b;
                boolean offRayToNew = (c * b - a * d) % 5 != 0;
                boolean offOneAndNew = ((a - 1) * (d - 1) - (b - 1) * (c - 1)) % 5 != 0;
                if (offOld && offRayToNew && offOneAndNew) {
                    return 1 + 5 * c + 25 * d;
                }
            }
        }
        return 0;
    }

    private static void clash() {
        promise = 21;
        Counted x = new Counted();
        due("no ELEMENTS", x.clash(0), NONE);
        sevenPoints(x, 0);
        due("seven points can be", x.clash(0), NONE);
        loosened(x, 0);
        due("just the one that was loosened", x.clash(0), 0b0111000);
        due("uniform", x.uniform(0, 5, 2), 1);
        due("the least of several", x.clash(0), 12);
        due("uniform", x.uniform(0, 5, 3), 1);
        due("3 and 4", x.clash(0), 24);
        due("idle ones", x.uniform(0, 7, 0), 1);
        due("idle ones", x.clash(0), NONE);
        due("v -1", x.clash(-1), BAD);
        due("v 4", x.clash(4), BAD);
    }

    private static void excludedAre(String call, Counted x, int v, int field, int... want) {
        for (int what = 0; what < 3; what++) {
            due(call + ", " + what, x.excluded(v, field, what), want[want.length == 1 ? 0 : what]);
        }
    }

    private static void excluded() {
        promise = 22;
        Counted x = new Counted();
        excludedAre("no ELEMENTS", x, 0, 0, NONE);
        excludedAre("no ELEMENTS", x, 0, 1, NONE);
        sevenPoints(x, 0);
        excludedAre("seven points, TWO", x, 0, 0, NONE);
        excludedAre("seven points, THREE", x, 0, 1, 3, 0, 0);
        due("dual", x.dual(0, 0), 4);
        excludedAre("their DUAL, TWO", x, 0, 0, NONE);
        excludedAre("their DUAL, THREE", x, 0, 1, 4, 0, 0);
        loosened(x, 0);
        excludedAre("loosened, THREE", x, 0, 1, NONE);
        excludedAre("loosened, TWO: into 3, one each of two lines gone", x, 0, 0, 0, 8, 0b0000101);
        due("uniform", x.uniform(0, 4, 2), 1);
        excludedAre("four on a line, TWO", x, 0, 0, 0, 0, 0);
        excludedAre("four on a line, THREE", x, 0, 1, NONE);
        due("uniform", x.uniform(0, 6, 2), 1);
        excludedAre("six on a line, TWO", x, 0, 0, 0, 0, 3);
        excludedAre("six on a line, THREE", x, 0, 1, 1, 0, 1);
        due("uniform", x.uniform(0, 6, 4), 1);
        excludedAre("RANK 4 of six, TWO", x, 0, 0, 0, 3, 0);
        excludedAre("RANK 4 of six, THREE", x, 0, 1, 2, 1, 0);
        due("uniform", x.uniform(0, 6, 3), 1);
        excludedAre("RANK 3 of six, TWO", x, 0, 0, 0, 1, 2);
        excludedAre("RANK 3 of six, THREE: gone comes before gone into", x, 0, 1, 2, 0, 1);
        due("uniform", x.uniform(0, 7, 3), 1);
        excludedAre("RANK 3 of seven isn't of seven points", x, 0, 1, 2, 0, 3);
        due("v -1", x.excluded(-1, 0, 0), BAD);
        due("v 4", x.excluded(4, 0, 0), BAD);
        due("field -1", x.excluded(0, -1, 0), BAD);
        due("field 2", x.excluded(0, 2, 0), BAD);
        due("what -1", x.excluded(0, 0, -1), BAD);
        due("what 3", x.excluded(0, 0, 3), BAD);
    }

    private static void seedAndDeal() {
        promise = 23;
        Counted x = new Counted();
        due("seed", x.seed(-77), 1);
        due("seed", x.seed(LEAST), -77);
        due("seed", x.seed(12), LEAST);
        due("z", x.count(1), 12);
        promise = 24;
        int[] sizes = {2, 3, 5, 4};
        int z = 12;
        for (int field = 0; field < 4; field++) {
            int[] codes = new int[7];
            for (int e = 0; e < 7; e++) {
                int unit = 1;
                for (int row = 0; row < 4; row++) {
                    z = z * 1103515245 + 12345;
                    codes[e] += unit * ((z >>> 16) % sizes[field]);
                    unit *= sizes[field];
                }
            }
            fill(x, 0, 1, codes);
            int rank = x.columns(1, field, 0, 7);
            due("deal", x.deal(0, field, 7, 4), rank);
            due("as by these COLUMNS", x.same(0, 1), 1);
            due("z", x.count(1), z);
        }
        due("no rows", x.deal(0, 2, 7, 0), 0);
        due("no rows", x.many(0, 0), 7);
        due("no COLUMNS", x.deal(1, 2, 0, 4), 0);
        due("no COLUMNS", x.many(1, 0), 0);
        due("z stays then", x.count(1), z);
        due("v -1", x.deal(-1, 0, 3, 3), BAD);
        due("v 4", x.deal(4, 0, 3, 3), BAD);
        due("field -1", x.deal(0, -1, 3, 3), BAD);
        due("field 4", x.deal(0, 4, 3, 3), BAD);
        due("n -1", x.deal(0, 0, -1, 3), BAD);
        due("n 8", x.deal(0, 0, 8, 3), BAD);
        due("r -1", x.deal(0, 0, 3, -1), BAD);
        due("r 5", x.deal(0, 0, 3, 5), BAD);
        due("nothing has changed", x.count(1), z);
        due("nothing has changed", x.many(0, 0), 7);
    }

    private static void chance() {
        promise = 25;
        for (int seed = 0; seed < 12; seed++) {
            Counted x = new Counted();
            Counted y = new Counted();
            due("seed", x.seed(seed), 1);
            due("seed", y.seed(seed), 1);
            int can = 0;
            for (int m = 1; m <= 5; m++) {
                y.deal(0, 2, 6, 3);
                can += y.writings(0, 1) > 0 ? 1 : 0;
                due("chance " + m, x.chance(2, 6, 3, m, 1), can);
            }
            due("z is as it was", x.count(1), seed);
            due("VIEWS are as they were", x.count(0), 0);
            due("over the FIELD they are of", x.chance(2, 7, 4, 5, 2), 5);
        }
        Counted x = new Counted();
        due("no COLUMNS", x.chance(0, 0, 0, 5, 3), 5);
        due("m 1", x.chance(3, 7, 4, 1, 3), 1);
        due("field -1", x.chance(-1, 3, 3, 3, 0), BAD);
        due("field 4", x.chance(4, 3, 3, 3, 0), BAD);
        due("n -1", x.chance(0, -1, 3, 3, 0), BAD);
        due("n 8", x.chance(0, 8, 3, 3, 0), BAD);
        due("r -1", x.chance(0, 3, -1, 3, 0), BAD);
        due("r 5", x.chance(0, 3, 5, 3, 0), BAD);
        due("m 0", x.chance(0, 3, 3, 0, 0), BAD);
        due("m 6", x.chance(0, 3, 3, 6, 0), BAD);
        due("other -1", x.chance(0, 3, 3, 3, -1), BAD);
        due("other 4", x.chance(0, 3, 3, 3, 4), BAD);
    }

    private static void holdAndHeld() {
        promise = 26;
        Counted x = new Counted();
        due("a VIEW of none", x.hold(3, 1, 0), 1);
        due("it is held", x.held(3, 2), 0);
        due("uniform", x.uniform(2, 5, 2), 1);
        due("a VIEW", x.hold(0, 1, 2), 1);
        due("the VIEW changes", x.uniform(2, 1, 0), 1);
        promise = 27;
        due("ELEMENTS as they were", x.held(0, 2), 5);
        due("RANK", x.held(0, 3), 2);
        due("BASES", x.held(0, 4), 10);
        due("a VIEW has no SIZE", x.held(0, 0), -13);
        due("a VIEW has no rests", x.held(0, 1), -13);
        int[] sizes = {2, 3, 5, 4};
        for (int field = 0; field < 4; field++) {
            due("a FIELD", x.hold(0, 0, field), 1);
            due("SIZE", x.held(0, 0), sizes[field]);
            due("rests", x.held(0, 1), field == 3 ? 0 : 1);
            due("a FIELD has no ELEMENTS", x.held(0, 2), -13);
            due("a FIELD has no RANK", x.held(0, 3), -13);
            due("a FIELD has no BASES", x.held(0, 4), -13);
        }
        due("a VIEW behind a FIELD", x.hold(0, 1, 2), 1);
        due("a VIEW behind a FIELD", x.held(0, 2), 1);
        due("a VIEW behind a FIELD", x.held(0, 0), -13);
        due("nothing, whatever k is", x.hold(0, 2, MOST), 1);
        due("nothing", x.held(0, 0), -11);
        due("a VIEW, then nothing", x.hold(3, 2, -1), 1);
        due("nothing", x.held(3, 2), -11);
        due("BAD before -11", x.held(0, 5), BAD);
        due("what -1", x.held(0, -1), BAD);
        due("h -1", x.held(-1, 0), BAD);
        due("h 4", x.held(4, 0), BAD);
        promise = 26;
        due("a FIELD", x.hold(1, 0, 1), 1);
        due("h -1", x.hold(-1, 2, 0), BAD);
        due("h 4", x.hold(4, 2, 0), BAD);
        due("what -1", x.hold(1, -1, 0), BAD);
        due("what 3", x.hold(1, 3, 0), BAD);
        due("FIELD -1", x.hold(1, 0, -1), BAD);
        due("FIELD 4", x.hold(1, 0, 4), BAD);
        due("VIEW -1", x.hold(1, 1, -1), BAD);
        due("VIEW 4", x.hold(1, 1, 4), BAD);
        due("nothing has changed", x.held(1, 0), 3);
    }

    private static void take() {
        promise = 28;
        Counted x = new Counted();
        sevenPoints(x, 0);
        due("hold", x.hold(2, 1, 0), 1);
        due("take", x.take(3, 2), 7);
        due("take", x.same(0, 3), 1);
        due("the one taken changes", x.uniform(3, 2, 1), 1);
        due("the one held doesn't", x.held(2, 4), 28);
        due("take again", x.take(3, 2), 7);
        due("take again", x.same(0, 3), 1);
        due("a FIELD", x.hold(2, 0, 0), 1);
        due("a FIELD", x.take(3, 2), -13);
        due("nothing", x.take(3, 1), -11);
        due("v -1", x.take(-1, 1), BAD);
        due("v 4", x.take(4, 2), BAD);
        due("h -1", x.take(0, -1), BAD);
        due("h 4", x.take(0, 4), BAD);
        due("nothing has changed", x.same(0, 3), 1);
    }

    private static void sheetWriteItem() {
        promise = 29;
        Counted x = new Counted();
        due("bytes", x.sheet(0, 0, 64), 1);
        due("ints", x.sheet(1, 1, 64), 1);
        for (int i = 0; i < 64; i++) {
            due("all 0", x.item(0, i) | x.item(1, i), 0);
            due("write", x.write(0, i, 7) + x.write(1, i, 7), 2);
        }
        due("not more than 64", x.item(0, 64), -12);
        due("anew", x.sheet(1, 1, 3), 1);
        items("anew", x, 1, 0, 0, 0);
        due("none", x.sheet(1, 0, 0), 1);
        items("none", x, 1);
        due("missing, whatever n is", x.sheet(1, -1, 65), 1);
        due("missing", x.item(1, 0), -11);
        due("missing, whatever n is", x.sheet(1, -1, -9), 1);
        due("s -1", x.sheet(-1, 0, 1), BAD);
        due("s 4", x.sheet(4, -1, 1), BAD);
        due("sort -2", x.sheet(0, -2, 1), BAD);
        due("sort 2, before -14", x.sheet(0, 2, -1), BAD);
        due("n 65", x.sheet(0, 1, 65), BAD);
        due("n most", x.sheet(0, 0, MOST), BAD);
        due("n -1", x.sheet(0, 0, -1), -14);
        due("n least", x.sheet(0, 1, LEAST), -14);
        promise = 30;
        due("nothing has changed", x.item(0, 63), 7);
        due("a byte's lowest bits", x.write(0, 0, 0x1234580), 1);
        due("a byte's lowest bits", x.item(0, 0), -128);
        due("a byte's lowest bits", x.write(0, 0, 383), 1);
        due("a byte's lowest bits", x.item(0, 0), 127);
        due("ints", x.sheet(2, 1, 2), 1);
        due("an int", x.write(2, 1, LEAST), 1);
        due("place -1", x.write(2, -1, 5), -12);
        due("place 2", x.write(2, 2, 5), -12);
        due("place most", x.write(2, MOST, 5), -12);
        due("missing", x.write(1, 0, 5), -11);
        due("missing before -12", x.write(1, -1, 5), -11);
        due("s -1", x.write(-1, 0, 5), BAD);
        due("s 4", x.write(4, 0, 5), BAD);
        promise = 31;
        items("as low as that", x, 2, 0, LEAST);
        due("place -1", x.item(2, -1), -12);
        due("place least", x.item(2, LEAST), -12);
        due("missing before -12", x.item(1, 99), -11);
        due("s -1", x.item(-1, 0), BAD);
        due("s 4", x.item(4, 0), BAD);
    }

    private static void copy() {
        promise = 32;
        Counted x = withSheet(0, 1, 1, 2, 3, 4, 5);
        fill(x, 1, 1, 9, 9, 9);
        due("copy", x.copy(0, 1, 1, 0, 2), 2);
        items("copy", x, 1, 2, 3, 9);
        due("upwards in itself", x.copy(0, 0, 0, 1, 4), 4);
        items("as they were", x, 0, 1, 1, 2, 3, 4);
        due("downwards in itself", x.copy(0, 1, 0, 0, 4), 4);
        items("as they were", x, 0, 1, 2, 3, 4, 4);
        due("none, at the ends", x.copy(0, 5, 1, 3, 0), 0);
        fill(x, 2, 0, -128, 127);
        fill(x, 3, 0, 1, 2, 3);
        due("bytes", x.copy(2, 0, 3, 1, 2), 2);
        items("bytes", x, 3, 1, -128, 127);
        due("unlike sorts", x.copy(0, 0, 2, 0, 1), -13);
        due("unlike sorts before -12", x.copy(2, 9, 0, 0, 1), -13);
        due("i -1", x.copy(0, -1, 1, 0, 1), -12);
        due("j -1", x.copy(0, 0, 1, -1, 1), -12);
        due("n -1", x.copy(0, 0, 1, 0, -1), -12);
        due("n least", x.copy(0, 0, 1, 0, LEAST), -12);
        due("n most", x.copy(0, 1, 1, 1, MOST), -12);
        due("i most", x.copy(0, MOST, 1, 0, 1), -12);
        due("j most", x.copy(0, 0, 1, MOST, MOST), -12);
        due("i and n too many", x.copy(0, 3, 1, 0, 3), -12);
        due("j and n too many", x.copy(0, 0, 1, 2, 2), -12);
        due("none, behind the end", x.copy(0, 6, 1, 0, 0), -12);
        due("none, behind the end", x.copy(0, 0, 1, 4, 0), -12);
        items("nothing has changed", x, 1, 2, 3, 9);
        due("missing", x.sheet(3, -1, 0), 1);
        due("from what is missing", x.copy(3, 0, 0, 0, 1), -11);
        due("to what is missing", x.copy(0, 0, 3, 0, -1), -11);
        due("s -1", x.copy(-1, 0, 3, 0, 1), BAD);
        due("s 4", x.copy(4, 0, 0, 0, 1), BAD);
        due("t -1", x.copy(0, 0, -1, 0, 1), BAD);
        due("t 4", x.copy(3, 0, 4, 0, 1), BAD);
    }

    private static void list() {
        promise = 33;
        Counted x = withSheet(1, 0, 5, 5, 5);
        due("no ELEMENTS", x.list(0, 0), 1);
        items("no ELEMENTS", x, 0, 0);
        due("uniform", x.uniform(0, 4, 3), 1);
        due("list", x.list(0, 1), 4);
        items("in order", x, 1, 7, 11, 13, 14);
        due("they are ints now", x.write(1, 0, 1000), 1);
        due("they are ints now", x.item(1, 0), 1000);
        due("uniform", x.uniform(0, 7, 3), 1);
        due("as many as there can be", x.list(0, 2), 35);
        due("uniform", x.uniform(1, 7, 7), 1);
        due("all are the only BASE", x.list(1, 3), 1);
        items("all are the only BASE", x, 3, 127);
        due("the last", x.item(2, 34), 112);
        due("none behind it", x.item(2, 35), -12);
        due("v -1", x.list(-1, 0), BAD);
        due("v 4", x.list(4, 0), BAD);
        due("s -1", x.list(0, -1), BAD);
        due("s 4", x.list(0, 4), BAD);
    }

    private static void imageAndBack() {
        promise = 34;
        Counted x = new Counted();
        due("uniform", x.uniform(0, 4, 2), 1);
        due("uniform", x.uniform(3, 5, 1), 1);
        due("seed", x.seed(99), 1);
        due("hold", x.hold(0, 0, 2), 1);
        due("image", x.image(), 9);
        due("what was there stays", x.rank(0, 15), 2);
        promise = 35;
        due("uniform", x.uniform(0, 7, 7), 1);
        due("uniform", x.uniform(1, 3, 3), 1);
        due("uniform", x.uniform(3, 0, 0), 1);
        due("seed", x.seed(-4), 99);
        due("hold", x.hold(0, 2, 0), 1);
        due("sheet", x.sheet(0, 1, 1), 1);
        for (int round = 0; round < 2; round++) {
            due("back", x.back(), 9);
            due("VIEW 0", x.rank(0, 15), 2);
            due("VIEW 0", x.many(0, 0), 4);
            due("VIEW 1", x.many(1, 0), 0);
            due("VIEW 3", x.rank(3, 31), 1);
            due("z", x.count(1), 99);
            due("HOLDS aren't kept", x.count(2), 0);
            due("SHEETS aren't kept", x.count(3), 1);
            due("it stays, whatever comes then", x.uniform(0, 2, 2), 1);
            due("it stays, whatever comes then", x.seed(round), 99);
        }
        due("the last one counts", x.image(), 7);
        due("uniform", x.uniform(0, 0, 0), 1);
        due("the last one counts", x.back(), 7);
        due("the last one counts", x.rank(0, 3), 2);
    }

    private static void count() {
        promise = 36;
        Counted x = new Counted();
        for (int v = 0; v < 4; v++) {
            due("uniform", x.uniform(v, v + 4, 1), 1);
        }
        due("ELEMENTS", x.count(0), 22);
        due("seed", x.seed(LEAST), 1);
        due("z", x.count(1), LEAST);
        due("hold", x.hold(3, 1, 0), 1);
        due("HOLDS", x.count(2), 1);
        due("hold", x.hold(0, 0, 0), 1);
        due("HOLDS", x.count(2), 2);
        due("hold", x.hold(3, 2, 0), 1);
        due("HOLDS", x.count(2), 1);
        due("sheet", x.sheet(3, 0, 0), 1);
        due("sheet", x.sheet(1, 1, 4), 1);
        due("SHEETS", x.count(3), 2);
        due("sheet", x.sheet(3, -1, 0), 1);
        due("SHEETS", x.count(3), 1);
        due("what -1", x.count(-1), BAD);
        due("what 4", x.count(4), BAD);
    }
}
