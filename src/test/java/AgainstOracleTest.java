import java.util.ArrayList;
import java.util.List;
import java.util.Random;

/** Long runs of calls, drawn from fixed seeds: the program and the oracle must answer each alike. */
public final class AgainstOracleTest {
    private static final int RUNS = 120;
    /** The rest of an object's calls is left for looking at what has come of these. */
    private static final int CALLS = 400;
    private static final int[] WILD = {-1, -2, -12, 4, 5, 7, 8, 64, 65, 128, 999, 1 << 20, Integer.MAX_VALUE,
        Integer.MIN_VALUE, Integer.MIN_VALUE + 1};
    private static final int[] COLUMN_CODES = {128, 2187, 78125, 16384};

    private final Random random;
    private final Pair pair = new Pair();

    private AgainstOracleTest(int run) {
        this.random = new Random(run * 7919L + 17);
    }

    public static void main(String[] args) {
        int wrong = 0;
        for (int run = 0; run < RUNS && wrong == 0; run++) {
            AgainstOracleTest test = new AgainstOracleTest(run);
            test.play();
            if (test.pair.isWrong()) {
                wrong++;
                System.out.println("run " + run + ": " + test.pair.fault());
            }
        }
        System.out.println(RUNS + " runs against the oracle, wrong answers: " + wrong);
        if (wrong != 0) {
            System.exit(1);
        }
    }

    private void play() {
        while (pair.size() < CALLS && !pair.isWrong()) {
            switch (random.nextInt(14)) {
                case 0:
                    columnsOfASheet();
                    break;
                case 1:
                    tellBases();
                    break;
                case 2:
                    renumberByASheet();
                    break;
                case 3:
                    writeAndReadAgain();
                    break;
                case 4:
                    call("deal", below(4), below(4), random.nextInt(8), random.nextInt(5));
                    break;
                case 5:
                    largeView();
                    break;
                case 6:
                    askOfWritings(random.nextInt(4));
                    break;
                default:
                    anyCall();
            }
        }
        pair.lookAtAll();
    }

    private void columnsOfASheet() {
        int s = random.nextInt(4);
        int n = random.nextInt(8);
        int field = random.nextInt(4);
        call("sheet", s, 1, n + random.nextInt(2));
        int rows = random.nextInt(4) == 0 ? 7 : random.nextInt(4);
        int codes = (int) Math.pow(new int[] {2, 3, 5, 4}[field], rows);
        for (int i = 0; i < n; i++) {
            call("write", s, i, random.nextInt(60) == 0 ? COLUMN_CODES[field] - random.nextInt(2) : random.nextInt(codes));
        }
        call("columns", below(4), field, s, n);
    }

    /** Of 5 to 7 ELEMENTS without idle ones, so that there is something to write, to clash, to exclude. */
    private void largeView() {
        int v = random.nextInt(4);
        int n = 5 + random.nextInt(3);
        int rows = 2 + random.nextInt(3);
        int field = 1 + random.nextInt(3);
        int size = new int[] {2, 3, 5, 4}[field];
        call("sheet", 0, 1, n);
        for (int e = 0; e < n; e++) {
            int code = 0;
            for (int row = 0; row < rows; row++) {
                code = code * size + (random.nextInt(4) == 0 ? 0 : 1 + random.nextInt(size - 1));
            }
            call("write", 0, e, code);
        }
        call("columns", v, field, 0, n);
        if (random.nextInt(3) == 0) {
            loosen(v, n);
        }
        if (random.nextBoolean()) {
            call("dual", v, v);
        }
        askOfWritings(v);
    }

    /** A set that is both CIRCUIT and HYPERPLANE becomes a BASE: what comes is often hard to write. */
    private void loosen(int v, int n) {
        for (int set = 0; set < 1 << n; set++) {
            if (ask("sorts", v, set) == 28) {
                int bases = ask("many", v, 2);
                call("list", v, 1);
                call("sheet", 2, 1, bases + 1);
                call("copy", 1, 0, 2, 0, bases);
                call("write", 2, bases, set);
                call("tell", v, 2, n);
                return;
            }
        }
    }

    private void askOfWritings(int v) {
        int s = random.nextInt(4);
        for (int field = 0; field < 4; field++) {
            call("writings", v, field);
        }
        call("clash", v);
        for (int what = 0; what < 3; what++) {
            call("excluded", v, 0, what);
            call("excluded", v, 1, what);
        }
        call("writes", v, random.nextInt(4), s);
        for (int e = 0; e < 7; e++) {
            call("item", s, e);
        }
    }

    private void tellBases() {
        int s = random.nextInt(4);
        int v = random.nextInt(4);
        call("list", v, s);
        int n = ask("many", v, 0);
        int many = ask("many", v, 2);
        for (int i = random.nextInt(5); i > 2; i--) {
            int spoiled = random.nextInt(3) == 0 ? random.nextInt(140) - 5 : 1 << random.nextInt(7) | 1 << random.nextInt(7);
            call("write", s, random.nextInt(Math.max(1, many)), spoiled);
        }
        call("tell", below(4), s, random.nextInt(6) == 0 ? below(8) : n);
        for (int what = 0; what < 4; what++) {
            call("cause", what);
        }
    }

    private void renumberByASheet() {
        int s = random.nextInt(4);
        List<Integer> order = new ArrayList<>();
        int v = random.nextInt(4);
        int n = ask("many", v, 0);
        for (int e = 0; e < n; e++) {
            order.add(random.nextInt(order.size() + 1), e);
        }
        call("sheet", s, random.nextInt(2), random.nextInt(9) == 0 ? 6 : n + random.nextInt(2));
        for (int e = 0; e < n; e++) {
            call("write", s, e, random.nextInt(40) == 0 ? below(8) : order.get(e));
        }
        int w = below(4);
        call("renumber", v, w, s);
        call("alike", v, w);
        call("same", v, w);
    }

    private void writeAndReadAgain() {
        int v = random.nextInt(4);
        int field = random.nextInt(4);
        int s = random.nextInt(4);
        int w = random.nextInt(4);
        int n = ask("many", v, 0);
        call("writings", v, field);
        call("writes", v, field, s);
        for (int e = 0; e < n; e++) {
            call("item", s, e);
        }
        call("columns", w, field, s, n);
        call("same", v, w);
    }

    private void anyCall() {
        List<String> names = Pair.names();
        String name = names.get(random.nextInt(names.size()));
        if (name.equals("chance") && random.nextInt(3) != 0) {
            return;
        }
        int[] bounds = boundsOf(name);
        Object[] values = new Object[bounds.length];
        for (int i = 0; i < bounds.length; i++) {
            values[i] = below(bounds[i]);
        }
        call(name, values);
    }

    /** One more than the highest that is right in each place, or 0 where every int is. */
    private int[] boundsOf(String name) {
        switch (name) {
            case "reckon": return new int[] {4, 4, 4, 4};
            case "uniform": return new int[] {4, 8, 5};
            case "columns": return new int[] {4, 4, 4, 8};
            case "tell": return new int[] {4, 4, 8};
            case "cause": case "count": return new int[] {4};
            case "rank": case "span": case "sorts": return new int[] {4, random.nextBoolean() ? 16 : 128};
            case "many": return new int[] {4, 6};
            case "at": return new int[] {4, 6, random.nextBoolean() ? 4 : 40};
            case "best": return new int[] {4, 4, 2};
            case "dual": case "same": case "alike": case "writings": case "take": case "list":
                return new int[] {4, 4};
            case "minor": return new int[] {4, 4, random.nextBoolean() ? 2 : 16, random.nextBoolean() ? 2 : 100};
            case "union": case "renumber": case "writes": return new int[] {4, 4, 4};
            case "clash": return new int[] {4};
            case "excluded": return new int[] {4, 2, 3};
            case "seed": return new int[] {0};
            case "deal": return new int[] {4, 4, 8, 5};
            case "chance": return new int[] {4, 8, 5, 6, 4};
            case "hold": return new int[] {4, 3, 4};
            case "held": return new int[] {4, 5};
            case "sheet": return new int[] {4, 2, random.nextBoolean() ? 9 : 65};
            case "write": return new int[] {4, random.nextBoolean() ? 9 : 64, random.nextBoolean() ? 8 : 0};
            case "item": return new int[] {4, random.nextBoolean() ? 9 : 64};
            case "copy": return new int[] {4, 6, 4, 6, 6};
            case "image": case "back": return new int[] {};
            default: throw new IllegalStateException(name);
        }
    }

    private int below(int bound) {
        if (bound == 0) {
            return random.nextInt();
        }
        return random.nextInt(25) == 0 ? WILD[random.nextInt(WILD.length)] : random.nextInt(bound);
    }

    private int ask(String name, Object... values) {
        return pair.ofOracle(name, values);
    }

    private void call(String name, Object... values) {
        pair.call(name, values);
    }
}
