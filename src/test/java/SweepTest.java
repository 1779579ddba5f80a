import java.util.Set;

/**
 * Each call with all arguments at their boundaries, in every mixture, on a new object, on one that has
 * something of all kinds and on one that is full: the program and the oracle must answer alike, and must
 * be alike thereafter.
 */
public final class SweepTest {
    private static final int LEAST = Edges.LEAST, MOST = Edges.MOST;
    private static final int MOST_IN_A_ROW = 100;
    private static final Set<String> ASKING = Set.of("reckon", "cause", "rank", "span", "sorts", "many", "at", "best",
        "same", "alike", "writings", "clash", "excluded", "chance", "held", "item", "count");

    private static final int[] FOURS = {LEAST, -1, 0, 1, 2, 3, 4, MOST};
    private static final int[] SIXES = {LEAST, -1, 0, 1, 2, 3, 4, 5, 6, MOST};
    private static final int[] SETS = {LEAST, -1, 0, 1, 6, 8, 15, 16, 64, 127, 128, MOST};
    private static final int[] ELEMENTS = {LEAST, -1, 0, 1, 2, 4, 6, 7, 8, MOST};
    private static final int[] ROWS = {LEAST, -1, 0, 1, 3, 4, 5, MOST};
    private static final int[] TIMES = {LEAST, -1, 0, 1, 5, 6, MOST};
    private static final int[] PLACES = {LEAST, -1, 0, 1, 4, 5, 6, 7, 34, 35, 63, 64, 127, 128, MOST};
    private static final int[] ENDS = {LEAST, -1, 0, 1, 5, 6, 64, MOST};
    private static final int[] LENGTHS = {LEAST, -1, 0, 1, 2, 63, 64, 65, MOST};
    private static final int[] SORTS = {LEAST, -2, -1, 0, 1, 2, MOST};
    private static final int[] VALUES = {LEAST, -129, -128, -1, 0, 1, 127, 128, 255, 256, MOST};

    private enum State { NEW, FURNISHED, FULL }

    private final State state;
    private Pair pair;
    private int inARow;
    private int calls;
    private int wrong;

    private SweepTest(State state) {
        this.state = state;
        begin();
    }

    public static void main(String[] args) {
        int wrong = 0;
        for (State state : State.values()) {
            SweepTest test = new SweepTest(state);
            for (String name : Pair.names()) {
                test.sweep(name, new Object[values(name).length], 0);
                test.end();
            }
            System.out.println(state + ": " + test.calls + " mixtures of arguments, wrong: " + test.wrong);
            wrong += test.wrong;
        }
        if (wrong != 0) {
            System.exit(1);
        }
    }

    private void sweep(String name, Object[] arguments, int place) {
        if (place == arguments.length) {
            look(name, arguments.clone());
            return;
        }
        for (int value : values(name)[place]) {
            arguments[place] = value;
            sweep(name, arguments, place + 1);
        }
    }

    private void look(String name, Object[] arguments) {
        Object answer = pair.call(name, arguments);
        calls++;
        inARow++;
        boolean isRefused = (Integer) answer < 0 && !name.equals("seed");
        if (!isRefused && !ASKING.contains(name) || inARow == MOST_IN_A_ROW) {
            end();
        }
    }

    private void end() {
        pair.lookAtAll();
        if (pair.isWrong()) {
            wrong++;
            if (wrong < 4) {
                System.out.println(state + ": " + pair.fault());
            }
        }
        begin();
    }

    private void begin() {
        pair = new Pair();
        inARow = 0;
        if (state == State.FURNISHED) {
            Furnished.furnish(pair::call);
        } else if (state == State.FULL) {
            Furnished.fillUp(pair::call);
        }
    }

    private static int[][] values(String name) {
        switch (name) {
            case "reckon": return new int[][] {FOURS, FOURS, SIXES, SIXES};
            case "uniform": return new int[][] {FOURS, ELEMENTS, ELEMENTS};
            case "columns": return new int[][] {FOURS, FOURS, FOURS, ELEMENTS};
            case "tell": return new int[][] {FOURS, FOURS, ELEMENTS};
            case "cause": case "clash": case "count": return new int[][] {FOURS};
            case "rank": case "span": case "sorts": return new int[][] {FOURS, SETS};
            case "many": return new int[][] {FOURS, SIXES};
            case "at": return new int[][] {FOURS, SIXES, PLACES};
            case "best": case "union": case "renumber": case "writes": case "excluded": case "hold":
                return new int[][] {FOURS, FOURS, FOURS};
            case "dual": case "same": case "alike": case "writings": case "take": case "list":
                return new int[][] {FOURS, FOURS};
            case "minor": return new int[][] {FOURS, FOURS, SETS, SETS};
            case "seed": return new int[][] {VALUES};
            case "deal": return new int[][] {FOURS, FOURS, ELEMENTS, ROWS};
            case "chance": return new int[][] {FOURS, ELEMENTS, ROWS, TIMES, FOURS};
            case "held": return new int[][] {FOURS, SIXES};
            case "sheet": return new int[][] {FOURS, SORTS, LENGTHS};
            case "write": return new int[][] {FOURS, PLACES, VALUES};
            case "item": return new int[][] {FOURS, PLACES};
            case "copy": return new int[][] {FOURS, ENDS, FOURS, ENDS, ENDS};
            case "image": case "back": return new int[][] {};
            default: throw new IllegalStateException(name);
        }
    }
}
