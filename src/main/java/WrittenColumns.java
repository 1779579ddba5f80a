/**
 * Matroids of at most seven elements, and how they can be written as columns over small fields.
 * The words in capitals are those of the document.
 */
public final class WrittenColumns {
    public static final int NONE = -1, BAD = -2, STATE = -3, MUCH = -5;

    private static final int NOTHING_HELD = -11, OUTSIDE = -12, OTHER_SORT = -13;
    private static final int SIZE_BELOW_ZERO = -14, PARTED_BY_ZERO = -15;

    private static final int FIELDS = 4, VIEWS = 4, HOLDS = 4, SHEETS = 4;
    private static final int MOST_ELEMENTS = 7, SETS = 128, LAST_SET = 127;
    private static final int MOST_DRAWN_ROWS = 4, MOST_CHANCES = 5, MOST_TO_MATCH = 6;

    private final Field[] fields = new Field[FIELDS];
    private final View[] views = new View[VIEWS];
    private final Hold[] holds = new Hold[HOLDS];
    private final Sheet[] sheets = new Sheet[SHEETS];
    private final Image kept = new Image();
    private final Cause why = new Cause();
    private final Matrix matrix = new Matrix();
    private final Writer writer = new Writer();
    private final Excluder excluder = new Excluder();
    private final Numbering numbering = new Numbering();
    /** A VIEW is made here first, since it may come to stand where one of those it is made of stands. */
    private final View draft = new View();
    private int z = 1;

    public WrittenColumns() {
        fields[0] = new Field(2);
        fields[1] = new Field(3);
        fields[2] = new Field(5);
        fields[3] = new Field(Field.BY_BITS);
        for (int v = 0; v < VIEWS; v++) {
            views[v] = new View();
        }
        for (int h = 0; h < HOLDS; h++) {
            holds[h] = new Hold();
        }
        for (int s = 0; s < SHEETS; s++) {
            sheets[s] = new Sheet();
        }
    }

    // ---- fields

    public int reckon(int field, int what, int a, int b) {
        if (!isBelow(field, FIELDS) || !isBelow(what, 4)) {
            return BAD;
        }
        Field numbers = fields[field];
        if (!isBelow(a, numbers.size) || !isBelow(b, numbers.size)) {
            return BAD;
        }
        switch (what) {
            case 0:
                return numbers.sum(a, b);
            case 1:
                return numbers.difference(a, b);
            case 2:
                return numbers.product(a, b);
            default:
                return b == 0 ? PARTED_BY_ZERO : numbers.product(a, numbers.inverse(b));
        }
    }

    // ---- views that are told

    public int uniform(int v, int n, int r) {
        if (!isBelow(v, VIEWS) || !isElementCount(n) || !isBelow(r, n + 1)) {
            return BAD;
        }
        views[v].becomeUniform(n, r);
        return 1;
    }

    public int columns(int v, int field, int s, int n) {
        if (!isBelow(v, VIEWS) || !isBelow(field, FIELDS) || !isBelow(s, SHEETS) || !isElementCount(n)) {
            return BAD;
        }
        Sheet sheet = sheets[s];
        if (sheet.isMissing()) {
            return NOTHING_HELD;
        }
        if (sheet.length < n) {
            return OUTSIDE;
        }
        int codes = fields[field].columnCount();
        for (int i = 0; i < n; i++) {
            if (!isBelow(sheet.numberAt(i), codes)) {
                return STATE;
            }
        }
        matrix.clear(fields[field]);
        for (int i = 0; i < n; i++) {
            matrix.putCode(i, sheet.numberAt(i));
        }
        views[v].becomeByColumns(matrix, n);
        return views[v].fullRank();
    }

    public int tell(int v, int s, int n) {
        if (!isBelow(v, VIEWS) || !isBelow(s, SHEETS) || !isElementCount(n)) {
            return BAD;
        }
        if (sheets[s].isMissing()) {
            return NOTHING_HELD;
        }
        if (why.findIn(sheets[s], n)) {
            return STATE;
        }
        views[v].becomeByBases(sheets[s], n);
        return views[v].fullRank();
    }

    public int cause(int what) {
        switch (what) {
            case 0:
                return why.sort;
            case 1:
                return why.place;
            case 2:
                return why.second;
            case 3:
                return why.element;
            default:
                return BAD;
        }
    }

    // ---- what there is

    public int rank(int v, int set) {
        return isSetOf(v, set) ? views[v].rankOf(set) : BAD;
    }

    public int span(int v, int set) {
        return isSetOf(v, set) ? views[v].spanOf(set) : BAD;
    }

    public int sorts(int v, int set) {
        if (!isSetOf(v, set)) {
            return BAD;
        }
        int bits = 0;
        for (int what = View.FREE; what <= View.HYPERPLANE; what++) {
            if (views[v].isOfSort(what, set)) {
                bits |= 1 << (what - View.FREE);
            }
        }
        return bits;
    }

    public int many(int v, int what) {
        if (!isBelow(v, VIEWS) || !isBelow(what, View.HYPERPLANE + 1)) {
            return BAD;
        }
        return what == 0 ? views[v].elements : views[v].countOf(what);
    }

    public int at(int v, int what, int k) {
        if (!isBelow(v, VIEWS) || what < View.FREE || what > View.HYPERPLANE) {
            return BAD;
        }
        return k < 0 ? NONE : views[v].findNumber(what, k);
    }

    public int best(int v, int s, int what) {
        if (!isBelow(v, VIEWS) || !isBelow(s, SHEETS) || !isBelow(what, 2)) {
            return BAD;
        }
        if (sheets[s].isMissing()) {
            return NOTHING_HELD;
        }
        int base = views[v].heaviestBase(sheets[s]);
        return what == 0 ? base : sheets[s].weightOf(base);
    }

    // ---- made of others

    public int dual(int v, int w) {
        if (!isBelow(v, VIEWS) || !isBelow(w, VIEWS)) {
            return BAD;
        }
        draft.becomeDual(views[v]);
        views[w].become(draft);
        return draft.fullRank();
    }

    public int minor(int v, int w, int x, int y) {
        if (!isBelow(w, VIEWS) || !isSetOf(v, x) || !isSetOf(v, y) || (x & y) != 0) {
            return BAD;
        }
        draft.becomeMinor(views[v], x, y);
        views[w].become(draft);
        return draft.elements;
    }

    public int union(int v, int w, int u) {
        if (!isBelow(v, VIEWS) || !isBelow(w, VIEWS) || !isBelow(u, VIEWS)) {
            return BAD;
        }
        if (views[v].elements != views[w].elements) {
            return STATE;
        }
        draft.becomeUnion(views[v], views[w]);
        views[u].become(draft);
        return draft.fullRank();
    }

    public int renumber(int v, int w, int s) {
        if (!isBelow(v, VIEWS) || !isBelow(w, VIEWS) || !isBelow(s, SHEETS)) {
            return BAD;
        }
        if (sheets[s].isMissing()) {
            return NOTHING_HELD;
        }
        if (sheets[s].length < views[v].elements) {
            return OUTSIDE;
        }
        if (!numbering.readFrom(sheets[s], views[v].elements)) {
            return STATE;
        }
        draft.becomeRenumbered(views[v], numbering);
        views[w].become(draft);
        return 1;
    }

    public int same(int v, int w) {
        if (!isBelow(v, VIEWS) || !isBelow(w, VIEWS)) {
            return BAD;
        }
        return views[v].elements == views[w].elements && views[v].leastUnlike(views[w]) == NONE ? 1 : 0;
    }

    public int alike(int v, int w) {
        if (!isBelow(v, VIEWS) || !isBelow(w, VIEWS)) {
            return BAD;
        }
        int n = views[v].elements;
        if (n > MOST_TO_MATCH && views[w].elements > MOST_TO_MATCH) {
            return MUCH;
        }
        if (n != views[w].elements) {
            return 0;
        }
        return Numbering.canMatch(numbering, views[v], views[w], 0, 0) ? 1 : 0;
    }

    // ---- writings

    public int writings(int v, int field) {
        if (!isBelow(v, VIEWS) || !isBelow(field, FIELDS)) {
            return BAD;
        }
        return writer.countUpTo(views[v], fields[field], Writer.ALL_THERE_ARE);
    }

    public int writes(int v, int field, int s) {
        if (!isBelow(v, VIEWS) || !isBelow(field, FIELDS) || !isBelow(s, SHEETS)) {
            return BAD;
        }
        if (writer.countUpTo(views[v], fields[field], 1) == 0) {
            return NONE;
        }
        int n = views[v].elements;
        sheets[s].become(Sheet.INTS, n);
        for (int e = 0; e < n; e++) {
            sheets[s].put(e, writer.firstCode(e));
        }
        return n;
    }

    public int clash(int v) {
        if (!isBelow(v, VIEWS)) {
            return BAD;
        }
        writer.layOut(views[v], fields[0]);
        draft.becomeByColumns(writer.matrix, views[v].elements);
        return views[v].leastUnlike(draft);
    }

    public int excluded(int v, int field, int what) {
        if (!isBelow(v, VIEWS) || !isBelow(field, 2) || !isBelow(what, 3)) {
            return BAD;
        }
        if (!excluder.findIn(views[v], field == 0)) {
            return NONE;
        }
        switch (what) {
            case 0:
                return excluder.sort;
            case 1:
                return excluder.x;
            default:
                return excluder.y;
        }
    }

    // ---- draws

    public int seed(int v) {
        int before = z;
        z = v;
        return before;
    }

    public int deal(int v, int field, int n, int r) {
        if (!isBelow(v, VIEWS) || !isDealt(field, n, r)) {
            return BAD;
        }
        z = drawColumns(fields[field], n, r, z);
        views[v].becomeByColumns(matrix, n);
        return views[v].fullRank();
    }

    public int chance(int field, int n, int r, int m, int other) {
        if (!isDealt(field, n, r) || m < 1 || m > MOST_CHANCES || !isBelow(other, FIELDS)) {
            return BAD;
        }
        int inThought = z;
        int written = 0;
        for (int i = 0; i < m; i++) {
            inThought = drawColumns(fields[field], n, r, inThought);
            draft.becomeByColumns(matrix, n);
            written += writer.countUpTo(draft, fields[other], 1);
        }
        return written;
    }

    // ---- holds, sheets

    public int hold(int h, int what, int k) {
        if (!isBelow(h, HOLDS)) {
            return BAD;
        }
        if (what == 0 && isBelow(k, FIELDS)) {
            holds[h].keepField(fields[k]);
        } else if (what == 1 && isBelow(k, VIEWS)) {
            holds[h].keepView(views[k]);
        } else if (what == 2) {
            holds[h].letGo();
        } else {
            return BAD;
        }
        return 1;
    }

    public int held(int h, int what) {
        if (!isBelow(h, HOLDS) || !isBelow(what, 5)) {
            return BAD;
        }
        Hold hold = holds[h];
        if (hold.isEmpty()) {
            return NOTHING_HELD;
        }
        Field field = hold.field;
        if (field != null) {
            return what < 2 ? field.tellOf(what) : OTHER_SORT;
        }
        switch (what) {
            case 2:
                return hold.view.elements;
            case 3:
                return hold.view.fullRank();
            case 4:
                return hold.view.countOf(View.BASE);
            default:
                return OTHER_SORT;
        }
    }

    public int take(int v, int h) {
        if (!isBelow(v, VIEWS) || !isBelow(h, HOLDS)) {
            return BAD;
        }
        if (holds[h].isEmpty()) {
            return NOTHING_HELD;
        }
        if (holds[h].field != null) {
            return OTHER_SORT;
        }
        views[v].become(holds[h].view);
        return views[v].elements;
    }

    public int sheet(int s, int sort, int n) {
        if (!isBelow(s, SHEETS) || sort < Sheet.MISSING || sort > Sheet.INTS) {
            return BAD;
        }
        if (sort == Sheet.MISSING) {
            sheets[s].become(Sheet.MISSING, 0);
            return 1;
        }
        if (n > Sheet.MOST) {
            return BAD;
        }
        if (n < 0) {
            return SIZE_BELOW_ZERO;
        }
        sheets[s].become(sort, n);
        return 1;
    }

    public int write(int s, int i, int v) {
        int refusal = refusalOfPlace(s, i);
        if (refusal != 0) {
            return refusal;
        }
        sheets[s].put(i, v);
        return 1;
    }

    public int item(int s, int i) {
        int refusal = refusalOfPlace(s, i);
        return refusal != 0 ? refusal : sheets[s].numberAt(i);
    }

    public int copy(int s, int i, int t, int j, int n) {
        if (!isBelow(s, SHEETS) || !isBelow(t, SHEETS)) {
            return BAD;
        }
        if (sheets[s].isMissing() || sheets[t].isMissing()) {
            return NOTHING_HELD;
        }
        if (sheets[s].sort != sheets[t].sort) {
            return OTHER_SORT;
        }
        if (!sheets[s].hasPlaces(i, n) || !sheets[t].hasPlaces(j, n)) {
            return OUTSIDE;
        }
        System.arraycopy(sheets[s].numbers, i, sheets[t].numbers, j, n);
        return n;
    }

    public int list(int v, int s) {
        if (!isBelow(v, VIEWS) || !isBelow(s, SHEETS)) {
            return BAD;
        }
        int bases = views[v].countOf(View.BASE);
        sheets[s].become(Sheet.INTS, bases);
        int place = 0;
        for (int set = 0; set <= views[v].all(); set++) {
            if (views[v].isOfSort(View.BASE, set)) {
                sheets[s].put(place, set);
                place++;
            }
        }
        return bases;
    }

    // ---- the image

    public int image() {
        for (int v = 0; v < VIEWS; v++) {
            kept.views[v].become(views[v]);
        }
        kept.z = z;
        kept.isThere = true;
        return elementsOfAll();
    }

    public int back() {
        if (!kept.isThere) {
            return STATE;
        }
        for (int v = 0; v < VIEWS; v++) {
            views[v].become(kept.views[v]);
        }
        z = kept.z;
        return elementsOfAll();
    }

    public int count(int what) {
        switch (what) {
            case 0:
                return elementsOfAll();
            case 1:
                return z;
            case 2:
                return fullHolds();
            case 3:
                return sheetsThere();
            default:
                return BAD;
        }
    }

    private static boolean isBelow(int k, int bound) {
        return k >= 0 && k < bound;
    }

    private static boolean isElementCount(int n) {
        return n >= 0 && n <= MOST_ELEMENTS;
    }

    private static boolean isDealt(int field, int n, int r) {
        return isBelow(field, FIELDS) && isElementCount(n) && r >= 0 && r <= MOST_DRAWN_ROWS;
    }

    private boolean isSetOf(int v, int set) {
        return isBelow(v, VIEWS) && (set & ~views[v].all()) == 0;
    }

    /** 0 if there is such a place. */
    private int refusalOfPlace(int s, int i) {
        if (!isBelow(s, SHEETS)) {
            return BAD;
        }
        if (sheets[s].isMissing()) {
            return NOTHING_HELD;
        }
        return isBelow(i, sheets[s].length) ? 0 : OUTSIDE;
    }

    /** Fills the matrix and answers what z has become, so that a deal in thought needn't touch z. */
    private int drawColumns(Field field, int n, int r, int from) {
        int drawn = from;
        matrix.clear(field);
        for (int column = 0; column < n; column++) {
            for (int row = 0; row < r; row++) {
                drawn = drawn * 1103515245 + 12345;
                matrix.put(column, row, field.rest(drawn >>> 16));
            }
        }
        return drawn;
    }

    private int elementsOfAll() {
        int sum = 0;
        for (int v = 0; v < VIEWS; v++) {
            sum += views[v].elements;
        }
        return sum;
    }

    private int fullHolds() {
        int full = 0;
        for (int h = 0; h < HOLDS; h++) {
            full += holds[h].isEmpty() ? 0 : 1;
        }
        return full;
    }

    private int sheetsThere() {
        int there = 0;
        for (int s = 0; s < SHEETS; s++) {
            there += sheets[s].isMissing() ? 0 : 1;
        }
        return there;
    }

    /** A FIELD of 2, 3, 5 numbers, which are rests, or of 4, which aren't. */
    private static final class Field {
        static final int BY_BITS = 4, MOST_NUMBERS = 5;

        private final int size;
        private final int[] inverses = new int[MOST_NUMBERS];

        Field(int size) {
            this.size = size;
            for (int b = 1; b < size && b < MOST_NUMBERS; b++) {
                for (int c = 1; c < size; c++) {
                    if (product(b, c) == 1) {
                        inverses[b] = c;
                    }
                }
            }
        }

        int rest(int number) {
            return size > 0 ? number % size : 0;
        }

        int sum(int a, int b) {
            return size == BY_BITS ? a ^ b : rest(a + b);
        }

        int difference(int a, int b) {
            if (size == BY_BITS) {
                return a ^ b;
            }
            return a < b ? a - b + size : a - b;
        }

        int product(int a, int b) {
            if (a == 0 || b == 0 || size <= 0) {
                return 0;
            }
            if (size == BY_BITS) {
                // 1, 2, 3 are the powers 0, 1, 2 of 2, and power 3 is 1 again
                return (a - 1 + b - 1) % 3 + 1;
            }
            return a * b % size;
        }

        /** 0 for 0, which has none. */
        int inverse(int b) {
            return isBelow(b, MOST_NUMBERS) ? inverses[b] : 0;
        }

        int columnCount() {
            int codes = 1;
            for (int row = 0; row < MOST_ELEMENTS; row++) {
                codes *= size;
            }
            return codes;
        }

        int tellOf(int what) {
            if (what == 0) {
                return size;
            }
            return size == BY_BITS ? 0 : 1;
        }
    }

    /** The ELEMENTS of a VIEW and the RANKS of their sets; what stands behind the last set doesn't matter. */
    private static final class View {
        static final int FREE = 1, BASE = 2, CIRCUIT = 3, FLAT = 4, HYPERPLANE = 5;

        private int elements;
        private final int[] ranks = new int[SETS];

        int all() {
            return (1 << elements) - 1;
        }

        int rankOf(int set) {
            return ranks[set & LAST_SET];
        }

        int fullRank() {
            return rankOf(all());
        }

        void become(View other) {
            elements = other.elements;
            System.arraycopy(other.ranks, 0, ranks, 0, SETS);
        }

        void becomeUniform(int n, int r) {
            elements = n;
            for (int set = 0; set <= all(); set++) {
                ranks[set & LAST_SET] = Math.min(Integer.bitCount(set), r);
            }
        }

        /**
         * Counting upwards, a set parts from the one before it by its lowest ELEMENT, which has come,
         * and those below that, which have left; they came last, so each COLUMN enters but once for
         * all sets that go on with it.
         */
        void becomeByColumns(Matrix matrix, int n) {
            elements = n;
            matrix.emptyEchelon();
            ranks[0] = 0;
            for (int set = 1; set <= all(); set++) {
                int lowest = Integer.numberOfTrailingZeros(set);
                for (int e = 0; e < lowest; e++) {
                    matrix.leave(e);
                }
                matrix.enter(lowest);
                ranks[set & LAST_SET] = matrix.depth;
            }
        }

        void becomeByBases(Sheet sheet, int n) {
            elements = n;
            for (int set = 0; set <= all(); set++) {
                int most = 0;
                for (int i = 0; i < sheet.length; i++) {
                    most = Math.max(most, Integer.bitCount(sheet.numberAt(i) & set));
                }
                ranks[set & LAST_SET] = most;
            }
        }

        void becomeDual(View other) {
            elements = other.elements;
            for (int set = 0; set <= all(); set++) {
                ranks[set & LAST_SET] = Integer.bitCount(set) + other.rankOf(all() & ~set) - other.fullRank();
            }
        }

        void becomeMinor(View other, int x, int y) {
            int left = other.all() & ~(x | y);
            elements = Integer.bitCount(left);
            int gone = other.rankOf(x);
            for (int set = 0; set <= all(); set++) {
                ranks[set & LAST_SET] = other.rankOf(spreadOver(left, set) | x) - gone;
            }
        }

        private static int spreadOver(int left, int set) {
            int old = 0;
            int number = 0;
            for (int e = 0; e < MOST_ELEMENTS; e++) {
                if ((left >> e & 1) != 0) {
                    old |= (set >> number & 1) << e;
                    number++;
                }
            }
            return old;
        }

        void becomeUnion(View one, View other) {
            elements = one.elements;
            for (int set = 0; set <= all(); set++) {
                int least = Integer.bitCount(set);
                for (int part = 0; part <= set; part++) {
                    if ((part & ~set) == 0) {
                        int bound = one.rankOf(part) + other.rankOf(part) + Integer.bitCount(set & ~part);
                        least = Math.min(least, bound);
                    }
                }
                ranks[set & LAST_SET] = least;
            }
        }

        void becomeRenumbered(View other, Numbering numbering) {
            elements = other.elements;
            for (int set = 0; set <= all(); set++) {
                ranks[numbering.newSet(set) & LAST_SET] = other.rankOf(set);
            }
        }

        /** NONE if there is none; looks at this one's sets alone. */
        int leastUnlike(View other) {
            for (int set = 0; set <= all(); set++) {
                if (rankOf(set) != other.rankOf(set)) {
                    return set;
                }
            }
            return NONE;
        }

        int spanOf(int set) {
            int spanned = set;
            for (int e = 0; e < elements; e++) {
                if (rankOf(set | 1 << e) == rankOf(set)) {
                    spanned |= 1 << e;
                }
            }
            return spanned;
        }

        boolean isFree(int set) {
            return rankOf(set) == Integer.bitCount(set);
        }

        boolean isBase(int set) {
            return isFree(set) && rankOf(set) == fullRank();
        }

        private boolean isCircuit(int set) {
            if (isFree(set)) {
                return false;
            }
            for (int e = 0; e < elements; e++) {
                if ((set >> e & 1) != 0 && !isFree(set & ~(1 << e))) {
                    return false;
                }
            }
            return true;
        }

        boolean isOfSort(int what, int set) {
            switch (what) {
                case FREE:
                    return isFree(set);
                case BASE:
                    return isBase(set);
                case CIRCUIT:
                    return isCircuit(set);
                case FLAT:
                    return spanOf(set) == set;
                case HYPERPLANE:
                    return rankOf(set) == fullRank() - 1 && spanOf(set) == set;
                default:
                    return false;
            }
        }

        int countOf(int what) {
            int found = 0;
            for (int set = 0; set <= all(); set++) {
                if (isOfSort(what, set)) {
                    found++;
                }
            }
            return found;
        }

        int findNumber(int what, int k) {
            int before = 0;
            for (int set = 0; set <= all(); set++) {
                if (isOfSort(what, set)) {
                    if (before == k) {
                        return set;
                    }
                    before++;
                }
            }
            return NONE;
        }

        /** There always is one. */
        int firstBase() {
            int set = 0;
            while (set < all() && !isBase(set)) {
                set++;
            }
            return set;
        }

        int heaviestBase(Sheet weights) {
            int heaviest = firstBase();
            for (int set = heaviest + 1; set <= all(); set++) {
                if (isBase(set) && weights.weightOf(set) > weights.weightOf(heaviest)) {
                    heaviest = set;
                }
            }
            return heaviest;
        }

        boolean isUniform(int n, int r) {
            if (elements != n || fullRank() != r) {
                return false;
            }
            for (int set = 0; set <= all(); set++) {
                if (Integer.bitCount(set) == r && !isFree(set)) {
                    return false;
                }
            }
            return true;
        }

        /** Seven points, each two of them on just one line of three. */
        boolean isSevenPointPlane() {
            if (elements != 7 || fullRank() != 3) {
                return false;
            }
            for (int set = 0; set <= all(); set++) {
                if (Integer.bitCount(set) == 2 && (!isFree(set) || linesThrough(set) != 1)) {
                    return false;
                }
            }
            return true;
        }

        /** Threes that aren't FREE: they are CIRCUITS where each two are FREE, which is asked as well. */
        private int linesThrough(int two) {
            int found = 0;
            for (int e = 0; e < elements; e++) {
                if ((two >> e & 1) == 0 && !isFree(two | 1 << e)) {
                    found++;
                }
            }
            return found;
        }
    }

    /**
     * Seven COLUMNS over a FIELD, and an echelon of those that have entered: at place p one, made of
     * them, whose first number that isn't 0 is in row p.
     */
    private static final class Matrix {
        private static final int NO_PLACE = -1;

        /** Some FIELD at first, so that there always is one. */
        private Field field = new Field(2);
        private final int[] numbers = new int[MOST_ELEMENTS * MOST_ELEMENTS];
        private final int[] echelon = new int[MOST_ELEMENTS * MOST_ELEMENTS];
        private final boolean[] isTaken = new boolean[MOST_ELEMENTS];
        private final int[] placeOf = new int[MOST_ELEMENTS];
        /** What is left of the COLUMN that enters. */
        private final int[] left = new int[MOST_ELEMENTS];
        private int depth;

        void clear(Field of) {
            field = of;
            for (int i = 0; i < numbers.length; i++) {
                numbers[i] = 0;
            }
        }

        void put(int column, int row, int number) {
            if (isBelow(column, MOST_ELEMENTS) && isBelow(row, MOST_ELEMENTS)) {
                numbers[column * MOST_ELEMENTS + row] = number;
            }
        }

        void putCode(int column, int code) {
            int size = Math.max(field.size, 1);
            int higher = code;
            for (int row = 0; row < MOST_ELEMENTS; row++) {
                put(column, row, higher % size);
                higher /= size;
            }
        }

        int codeOf(int column) {
            int code = 0;
            for (int row = MOST_ELEMENTS - 1; row >= 0 && isBelow(column, MOST_ELEMENTS); row--) {
                code = code * field.size + numbers[column * MOST_ELEMENTS + row];
            }
            return code;
        }

        void emptyEchelon() {
            depth = 0;
            for (int place = 0; place < MOST_ELEMENTS; place++) {
                isTaken[place] = false;
            }
        }

        int rankOf(int set) {
            emptyEchelon();
            for (int column = 0; column < MOST_ELEMENTS; column++) {
                if ((set >> column & 1) != 0) {
                    enter(column);
                }
            }
            return depth;
        }

        void enter(int column) {
            if (!isBelow(column, MOST_ELEMENTS)) {
                return;
            }
            System.arraycopy(numbers, column * MOST_ELEMENTS, left, 0, MOST_ELEMENTS);
            placeOf[column] = NO_PLACE;
            for (int place = 0; place < MOST_ELEMENTS; place++) {
                if (left[place] == 0) {
                    continue;
                }
                if (!isTaken[place]) {
                    keepLeft(column, place);
                    return;
                }
                int pivot = echelon[place * MOST_ELEMENTS + place];
                int factor = field.product(left[place], field.inverse(pivot));
                for (int row = place; row < MOST_ELEMENTS; row++) {
                    int part = field.product(factor, echelon[place * MOST_ELEMENTS + row]);
                    left[row] = field.difference(left[row], part);
                }
            }
        }

        private void keepLeft(int column, int place) {
            System.arraycopy(left, 0, echelon, place * MOST_ELEMENTS, MOST_ELEMENTS);
            isTaken[place] = true;
            placeOf[column] = place;
            depth++;
        }

        /** Only the one that entered last may leave: the others' places may be made with it. */
        void leave(int column) {
            if (isBelow(column, MOST_ELEMENTS) && placeOf[column] != NO_PLACE) {
                isTaken[placeOf[column]] = false;
                placeOf[column] = NO_PLACE;
                depth--;
            }
        }
    }

    /** Looks for the WRITINGS of a VIEW over a FIELD. */
    private static final class Writer {
        /** More than any VIEW has. */
        static final int ALL_THERE_ARE = 1 << 30;

        /** ROWS times COLUMNS that aren't of BASE: 3 times 4 at most. */
        private static final int MOST_PLACES = 12;

        private final Matrix matrix = new Matrix();
        private final int[] columnOf = new int[MOST_PLACES];
        private final int[] rowOf = new int[MOST_PLACES];
        private final boolean[] joins = new boolean[MOST_PLACES];
        /** ROWS, and behind them COLUMNS, that are joined bear the same number. */
        private final int[] joined = new int[2 * MOST_ELEMENTS];
        private final int[] first = new int[MOST_ELEMENTS];
        /** Some VIEW and some FIELD at first, so that there always are such. */
        private View view = new View();
        private Field field = new Field(2);
        private int base;
        private int places;
        private int found;
        private int enough;

        int countUpTo(View of, Field over, int limit) {
            layOut(of, over);
            found = 0;
            enough = limit;
            fill(this, 0);
            return found;
        }

        int firstCode(int element) {
            return isBelow(element, MOST_ELEMENTS) ? first[element] : 0;
        }

        /** Puts 1 in each place that isn't 0, and lists those places. */
        void layOut(View of, Field over) {
            view = of;
            field = over;
            base = of.firstBase();
            places = 0;
            matrix.clear(over);
            for (int i = 0; i < joined.length; i++) {
                joined[i] = i;
            }
            for (int e = 0; e < of.elements; e++) {
                layOutColumn(e);
            }
        }

        private void layOutColumn(int element) {
            int row = 0;
            for (int e = 0; e < view.elements; e++) {
                if ((base >> e & 1) != 0) {
                    if (e == element) {
                        matrix.put(element, row, 1);
                    } else if ((base >> element & 1) == 0 && view.isBase(base & ~(1 << e) | 1 << element)) {
                        matrix.put(element, row, 1);
                        addPlace(element, row);
                    }
                    row++;
                }
            }
        }

        private void addPlace(int column, int row) {
            if (places >= MOST_PLACES) {
                return;
            }
            columnOf[places] = column;
            rowOf[places] = row;
            joins[places] = join(row, MOST_ELEMENTS + column);
            places++;
        }

        /** False if they were joined already. */
        private boolean join(int one, int other) {
            if (!isBelow(one, joined.length) || !isBelow(other, joined.length) || joined[one] == joined[other]) {
                return false;
            }
            int old = joined[other];
            for (int i = 0; i < joined.length; i++) {
                if (joined[i] == old) {
                    joined[i] = joined[one];
                }
            }
            return true;
        }

        /** Goes through the numbers upwards, so that the first to be kept is the FIRST WRITING. */
        private static void fill(Writer writer, int place) {
            if (place >= writer.places || place >= MOST_PLACES) {
                writer.keep();
                return;
            }
            int column = writer.columnOf[place];
            int last = writer.joins[place] ? 1 : writer.field.size - 1;
            for (int number = 1; number <= last && writer.found < writer.enough; number++) {
                writer.matrix.put(column, writer.rowOf[place], number);
                if (!writer.isLastOfColumn(place) || writer.fits(column)) {
                    fill(writer, place + 1);
                }
            }
        }

        private void keep() {
            if (found == 0) {
                for (int e = 0; e < MOST_ELEMENTS; e++) {
                    first[e] = matrix.codeOf(e);
                }
            }
            found++;
        }

        private boolean isLastOfColumn(int place) {
            return place + 1 >= places || place + 1 >= MOST_PLACES || columnOf[place + 1] != columnOf[place];
        }

        /**
         * Whether the COLUMNS up to this one tell the VIEW's BASES: it is enough to look at sets of as
         * many as BASE has, since all RANKS follow from BASES, and at those with this COLUMN, since
         * those without it were looked at before.
         */
        private boolean fits(int column) {
            int filled = base | (2 << column) - 1;
            int size = Integer.bitCount(base);
            for (int set = 0; set <= view.all(); set++) {
                boolean isAsked = (set >> column & 1) != 0 && (set & ~filled) == 0;
                if (isAsked && Integer.bitCount(set) == size) {
                    if ((matrix.rankOf(set) == size) != (view.rankOf(set) == size)) {
                        return false;
                    }
                }
            }
            return true;
        }
    }

    /** Looks for the first EXCLUDED among the MINORS of a VIEW. */
    private static final class Excluder {
        private static final int NO_SORT = -1;

        private final View minor = new View();
        private final View turned = new View();
        private int sort;
        private int x;
        private int y;

        /** False if there is none. */
        boolean findIn(View view, boolean forTwo) {
            for (int into = 0; into <= view.all(); into++) {
                for (int gone = 0; gone <= view.all(); gone++) {
                    if ((into & gone) != 0) {
                        continue;
                    }
                    int left = view.elements - Integer.bitCount(into | gone);
                    boolean canBe = forTwo ? left == 4 : left == 5 || left == 7;
                    if (canBe) {
                        x = into;
                        y = gone;
                        minor.becomeMinor(view, x, y);
                        sort = forTwo ? sortForTwo() : sortForThree();
                        if (sort != NO_SORT) {
                            return true;
                        }
                    }
                }
            }
            return false;
        }

        private int sortForTwo() {
            return minor.isUniform(4, 2) ? 0 : NO_SORT;
        }

        private int sortForThree() {
            if (minor.isUniform(5, 2)) {
                return 1;
            }
            if (minor.isUniform(5, 3)) {
                return 2;
            }
            if (minor.isSevenPointPlane()) {
                return 3;
            }
            turned.becomeDual(minor);
            return turned.isSevenPointPlane() ? 4 : NO_SORT;
        }
    }

    /** New numbers of ELEMENTS. */
    private static final class Numbering {
        private final int[] newBit = new int[MOST_ELEMENTS];

        /** False if the numbers aren't 0 .. n - 1, each once. */
        boolean readFrom(Sheet sheet, int n) {
            int used = 0;
            for (int e = 0; e < n && e < MOST_ELEMENTS; e++) {
                int number = sheet.numberAt(e);
                if (!isBelow(number, n) || (used >> number & 1) != 0) {
                    return false;
                }
                used |= 1 << number;
                newBit[e] = 1 << number;
            }
            return true;
        }

        int newSet(int set) {
            int renumbered = 0;
            for (int e = 0; e < MOST_ELEMENTS; e++) {
                if ((set >> e & 1) != 0) {
                    renumbered |= newBit[e];
                }
            }
            return renumbered;
        }

        /** Whether ELEMENTS from this one on can get numbers that aren't used, such that RANKS agree. */
        private static boolean canMatch(Numbering numbering, View from, View to, int element, int used) {
            if (element >= from.elements || element >= MOST_ELEMENTS) {
                return true;
            }
            for (int number = 0; number < to.elements; number++) {
                if ((used >> number & 1) == 0) {
                    numbering.newBit[element] = 1 << number;
                    if (numbering.agrees(from, to, element)
                            && canMatch(numbering, from, to, element + 1, used | 1 << number)) {
                        return true;
                    }
                }
            }
            return false;
        }

        /** Looks at sets whose highest ELEMENT this is: those below were looked at before. */
        private boolean agrees(View from, View to, int element) {
            for (int set = 1 << element; set < 2 << element; set++) {
                if (from.rankOf(set) != to.rankOf(newSet(set))) {
                    return false;
                }
            }
            return true;
        }
    }

    /** Why told sets are no BASES. */
    private static final class Cause {
        private static final int NOBODY = -1;

        private int sort;
        private int place = NOBODY;
        private int second = NOBODY;
        private int element = NOBODY;
        private final boolean[] isTold = new boolean[SETS];

        /** False, and no CAUSE any more, if what is told are BASES. */
        boolean findIn(Sheet sheet, int n) {
            say(0, NOBODY, NOBODY, NOBODY);
            if (sheet.length == 0) {
                say(1, NOBODY, NOBODY, NOBODY);
                return true;
            }
            return findInNumbers(sheet, n) || findInTwos(sheet, n);
        }

        private void say(int ofSort, int at1, int at2, int who) {
            sort = ofSort;
            place = at1;
            second = at2;
            element = who;
        }

        private boolean findInNumbers(Sheet sheet, int n) {
            for (int set = 0; set < SETS; set++) {
                isTold[set] = false;
            }
            for (int i = 0; i < sheet.length; i++) {
                int set = sheet.numberAt(i);
                if (!isBelow(set, 1 << n)) {
                    say(2, i, NOBODY, NOBODY);
                    return true;
                }
                if (Integer.bitCount(set) != Integer.bitCount(sheet.numberAt(0))) {
                    say(3, i, NOBODY, NOBODY);
                    return true;
                }
                isTold[set & LAST_SET] = true;
            }
            return false;
        }

        private boolean findInTwos(Sheet sheet, int n) {
            for (int i = 0; i < sheet.length; i++) {
                for (int j = 0; j < sheet.length; j++) {
                    for (int e = 0; e < n; e++) {
                        if (lacksOneFor(e, sheet.numberAt(i), sheet.numberAt(j))) {
                            say(4, i, j, e);
                            return true;
                        }
                    }
                }
            }
            return false;
        }

        private boolean lacksOneFor(int e, int one, int other) {
            if ((one & ~other & 1 << e) == 0) {
                return false;
            }
            for (int f = 0; f < MOST_ELEMENTS; f++) {
                if ((other & ~one & 1 << f) != 0 && isTold[(one & ~(1 << e) | 1 << f) & LAST_SET]) {
                    return false;
                }
            }
            return true;
        }
    }

    /** A row of bytes or ints; both stand in ints, so that no new row is ever made. */
    private static final class Sheet {
        static final int MISSING = -1, BYTES = 0, INTS = 1, MOST = 64;

        private int sort = MISSING;
        private int length;
        private final int[] numbers = new int[MOST];

        boolean isMissing() {
            return sort == MISSING;
        }

        /** All 0. */
        void become(int newSort, int newLength) {
            sort = newSort;
            length = Math.min(newLength, MOST);
            for (int i = 0; i < MOST; i++) {
                numbers[i] = 0;
            }
        }

        boolean hasPlaces(int from, int n) {
            return from >= 0 && n >= 0 && from <= length - n;
        }

        /** 0 for those that lack. */
        int numberAt(int i) {
            return isBelow(i, length) ? numbers[i] : 0;
        }

        void put(int i, int number) {
            if (isBelow(i, length)) {
                numbers[i] = sort == BYTES ? (byte) number : number;
            }
        }

        int weightOf(int set) {
            int weight = 0;
            for (int e = 0; e < MOST_ELEMENTS; e++) {
                if ((set >> e & 1) != 0) {
                    weight += numberAt(e);
                }
            }
            return weight;
        }
    }

    /** Nothing, a FIELD, or a VIEW as it was. */
    private static final class Hold {
        private Field field;
        private boolean hasView;
        private final View view = new View();

        boolean isEmpty() {
            return field == null && !hasView;
        }

        void keepField(Field kept) {
            field = kept;
            hasView = false;
        }

        void keepView(View kept) {
            field = null;
            hasView = true;
            view.become(kept);
        }

        void letGo() {
            field = null;
            hasView = false;
        }
    }

    /** VIEWS and z as they were, if any have been kept. */
    private static final class Image {
        private boolean isThere;
        private int z;
        private final View[] views = new View[VIEWS];

        Image() {
            for (int v = 0; v < VIEWS; v++) {
                views[v] = new View();
            }
        }
    }
}
