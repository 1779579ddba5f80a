/** Objects that have something of all kinds, and a look at all that there is in one. */
final class Furnished {
    /** Whoever is to be furnished, told call by call. */
    interface Told {
        Object call(String name, Object... values);
    }

    private Furnished() {
    }

    static Counted object() {
        Counted x = new Counted();
        furnish((name, values) -> Pair.ofProgram(x, name, values));
        return x;
    }

    /**
     * VIEWS: 0 of four, all twos BASES; 1 of five over TWO, 1 and 3 alike, 4 idle; 2 of three, RANK 1; 3 of none.
     * SHEETS: 0 five ints, 1 three bytes, 2 of no ints, 3 missing. HOLDS: 0 FIVE, 1 VIEW 1, 2 nothing, 3 TWO.
     * CAUSE is of sort 4, z is 777, THE IMAGE has VIEWS of 2, 0, 7, 1 and z 55.
     */
    static void furnish(Told x) {
        uniforms(x, 2, 1, 0, 0, 7, 7, 1, 0);
        x.call("seed", 55);
        x.call("image");
        fill(x, 0, 1, 3, 5, 4, 5, 0);
        x.call("columns", 1, 0, 0, 5);
        fill(x, 0, 1, 3, 12);
        x.call("tell", 0, 0, 4);
        fill(x, 0, 1, 3, 1, 0, 2, 4);
        fill(x, 1, 0, -1, 7, 100);
        x.call("sheet", 2, 1, 0);
        x.call("uniform", 0, 4, 2);
        x.call("uniform", 2, 3, 1);
        x.call("uniform", 3, 0, 0);
        x.call("hold", 0, 0, 2);
        x.call("hold", 1, 1, 1);
        x.call("hold", 3, 0, 0);
        x.call("seed", 777);
    }

    /**
     * VIEWS: 0 of seven points over TWO, 1 of seven FREE ones, 2 idle ones, 3 FREE ones. SHEETS: 0 of 64 ints,
     * 1 of seven, 2 of seven bytes, 3 of 28 ints. All HOLDS hold something; z is the least int.
     */
    static void fillUp(Told x) {
        uniforms(x, 7, 3, 7, 4, 7, 0, 7, 7);
        x.call("image");
        fill(x, 1, 1, 1, 2, 4, 3, 5, 6, 7);
        x.call("columns", 0, 0, 1, 7);
        fill(x, 2, 0, 127);
        x.call("tell", 1, 2, 7);
        fill(x, 2, 0, 6, 0, 5, 1, 4, 2, 3);
        x.call("sheet", 0, 1, 64);
        x.call("write", 0, 63, Edges.LEAST);
        x.call("list", 0, 3);
        x.call("write", 3, 27, 56);
        x.call("hold", 0, 1, 0);
        x.call("hold", 1, 1, 1);
        x.call("hold", 2, 0, 3);
        x.call("hold", 3, 1, 3);
        x.call("seed", Edges.LEAST);
    }

    private static void uniforms(Told x, int... many) {
        for (int v = 0; v < 4; v++) {
            x.call("uniform", v, many[2 * v], many[2 * v + 1]);
        }
    }

    private static void fill(Told x, int s, int sort, int... numbers) {
        x.call("sheet", s, sort, numbers.length);
        for (int i = 0; i < numbers.length; i++) {
            x.call("write", s, i, numbers[i]);
        }
    }

    /** What can only be seen by changing something comes last. */
    static String look(Counted x) {
        StringBuilder seen = new StringBuilder();
        for (int k = 0; k < 4; k++) {
            seen.append("\nVIEW ").append(view(x, k));
            seen.append("\nSHEET ");
            for (int i = 0, item = 0; item != Edges.OUTSIDE && item != Edges.NOTHING && i < 65; i++) {
                item = x.item(k, i);
                seen.append(item).append(' ');
            }
            seen.append("\nHOLD ");
            for (int what = 0; what < 5; what++) {
                seen.append(x.held(k, what)).append(' ');
            }
            seen.append("\nCAUSE, count ").append(x.cause(k)).append(' ').append(x.count(k));
        }
        seen.append("\nlike sorts ");
        for (int s = 0; s < 3; s++) {
            for (int t = s + 1; t < 4; t++) {
                seen.append(x.copy(s, 0, t, 0, 0)).append(' ');
            }
        }
        for (int h = 0; h < 4; h++) {
            seen.append("\ntaken ").append(x.take(0, h) < 0 ? "nothing" : view(x, 0));
        }
        seen.append("\nIMAGE ").append(x.back());
        for (int v = 0; v < 4; v++) {
            seen.append("\nVIEW ").append(v == 2 ? x.rank(2, 127) + "" : view(x, v));
        }
        return seen.append(" z ").append(x.count(1)).toString();
    }

    private static String view(Counted x, int v) {
        int n = x.many(v, 0);
        StringBuilder ranks = new StringBuilder();
        for (int set = 0; set < 1 << n; set++) {
            ranks.append(x.rank(v, set));
        }
        return ranks.toString();
    }
}
