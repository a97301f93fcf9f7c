/** One method for each promise of the document: ordinary inputs, the edges it names, wrong inputs. */
public final class PromisesTest {
    private static final int BAD = -1000000000;
    private static final int[] NO_FILTERS = {-1, 2, 3, Integer.MIN_VALUE, Integer.MAX_VALUE};
    private static final int[] NO_CELLS = {-1, 100, 101, Integer.MIN_VALUE, Integer.MAX_VALUE};
    private static final int[] NO_VALUES = {-100, 100, Integer.MIN_VALUE, Integer.MAX_VALUE};
    private static final int[] NO_LINES = {-1, 20, Integer.MIN_VALUE, Integer.MAX_VALUE};
    private static final int[] NO_PLACES = {-1, 10, Integer.MIN_VALUE, Integer.MAX_VALUE};
    private static final int[] NO_NUMBERS = {-1, 9, Integer.MIN_VALUE, Integer.MAX_VALUE};
    private static final int[] NO_WEIGHTS = {-10, 10, Integer.MIN_VALUE, Integer.MAX_VALUE};
    private static final int[] NO_BLOCKS = {-1, 25, Integer.MIN_VALUE, Integer.MAX_VALUE};

    private static int wrong = 0;

    private static void due(String call, int want, int got) {
        if (got != want) {
            wrong++;
            System.out.println(call + " answered " + got + ", due is " + want);
        }
    }

    private static void due(String call, boolean want, boolean got) {
        if (got != want) {
            wrong++;
            System.out.println(call + " answered " + got + ", due is " + want);
        }
    }

    /** An object whose filter f answers each cell's own value. */
    private static WinogradEngine mirror(int f) {
        WinogradEngine engine = new WinogradEngine();
        engine.weight(f, 4, 1);
        return engine;
    }

    /** Looks at all cells of an object whose filter f is a mirror. */
    private static void dueCells(String what, WinogradEngine engine, int f, int[] want) {
        for (int cell = 0; cell < 100; cell++) {
            due(what + ": cell " + cell, want[cell], engine.response(f, cell));
        }
    }

    /** Looks at all weights of an object whose image is 1 at cell 44 and 0 elsewhere. */
    private static void dueWeights(String what, WinogradEngine engine, int f, int... want) {
        for (int number = 0; number < 9; number++) {
            int cell = 44 - (number % 3 - 1) - 10 * (number / 3 - 1);
            due(what + ": weight " + number + " of filter " + f, want[number], engine.response(f, cell));
        }
    }

    private static void setWeights(WinogradEngine engine, int f, int... values) {
        for (int number = 0; number < 9; number++) {
            due("weight(" + f + ", " + number + ", " + values[number] + ")", true, engine.weight(f, number, values[number]));
        }
    }

    private static void fill(WinogradEngine engine, int value) {
        for (int line = 0; line < 10; line++) {
            due("stripe(" + line + ", 0, 9, " + value + ")", 10, engine.stripe(line, 0, 9, value));
        }
    }

    private static void promise1NewObject() {
        dueCells("1 new", mirror(0), 0, new int[100]);
        dueCells("1 new", mirror(1), 1, new int[100]);
        for (int f = 0; f < 2; f++) {
            WinogradEngine engine = new WinogradEngine();
            engine.set(44, 1);
            dueWeights("1 new", engine, f, 0, 0, 0, 0, 0, 0, 0, 0, 0);
            due("1 new greatest", 0, new WinogradEngine().greatest(f));
            due("1 new where", 0, new WinogradEngine().where(f));
            due("1 new total", 0, new WinogradEngine().total(f));
            due("1 new pooled", 0, new WinogradEngine().pooled(f, 24));
            due("1 new apply", 0, new WinogradEngine().apply(f));
        }
        due("1 new second", 0, new WinogradEngine().second(0));

        WinogradEngine used = mirror(0);
        fill(used, 7);
        dueCells("1 new beside a used one", mirror(0), 0, new int[100]);
    }

    private static void promise2Set() {
        WinogradEngine engine = mirror(0);
        int[] want = new int[100];
        for (int cell = 0; cell < 100; cell++) {
            want[cell] = cell - 50;
            due("2 set(" + cell + ")", true, engine.set(cell, want[cell]));
        }
        int[] edges = {0, 99, 9, -99, 90, 0, 99, 99, 99, -99};
        for (int k = 0; k < edges.length; k += 2) {
            want[edges[k]] = edges[k + 1];
            due("2 set edge", true, engine.set(edges[k], edges[k + 1]));
        }
        for (int cell : NO_CELLS) {
            due("2 set(" + cell + ", 5)", false, engine.set(cell, 5));
        }
        for (int value : NO_VALUES) {
            due("2 set(33, " + value + ")", false, engine.set(33, value));
            due("2 set(100, " + value + ")", false, engine.set(100, value));
        }
        dueCells("2 set", engine, 0, want);
    }

    private static void promise3Stripe() {
        WinogradEngine engine = mirror(1);
        int[] want = new int[100];
        due("3 row", 4, engine.stripe(3, 2, 5, 8));
        for (int x = 2; x <= 5; x++) {
            want[30 + x] = 8;
        }
        due("3 column", 7, engine.stripe(14, 1, 7, -6));
        for (int y = 1; y <= 7; y++) {
            want[10 * y + 4] = -6;
        }
        dueCells("3 inner lines", engine, 1, want);

        due("3 first row", 10, engine.stripe(0, 0, 9, 99));
        due("3 last row", 10, engine.stripe(9, 0, 9, -99));
        due("3 first column", 10, engine.stripe(10, 0, 9, 1));
        due("3 last column", 10, engine.stripe(19, 0, 9, 2));
        for (int place = 0; place < 10; place++) {
            want[place] = 99;
            want[90 + place] = -99;
        }
        for (int place = 0; place < 10; place++) {
            want[10 * place] = 1;
            want[10 * place + 9] = 2;
        }
        due("3 one cell of a row", 1, engine.stripe(6, 9, 9, 0));
        due("3 one cell of a column", 1, engine.stripe(12, 0, 0, 3));
        want[69] = 0;
        want[2] = 3;
        due("3 from above to", 0, engine.stripe(5, 6, 5, 44));
        due("3 from above to, column", 0, engine.stripe(15, 9, 0, 44));
        dueCells("3 edges", engine, 1, want);

        for (int line : NO_LINES) {
            due("3 line " + line, BAD, engine.stripe(line, 0, 9, 5));
        }
        for (int place : NO_PLACES) {
            due("3 row from " + place, BAD, engine.stripe(2, place, 9, 5));
            due("3 row to " + place, BAD, engine.stripe(2, 0, place, 5));
            due("3 column from " + place, BAD, engine.stripe(12, place, 9, 5));
            due("3 column to " + place, BAD, engine.stripe(12, 0, place, 5));
        }
        for (int value : NO_VALUES) {
            due("3 value " + value, BAD, engine.stripe(2, 0, 9, value));
            due("3 value " + value + ", from above to", BAD, engine.stripe(2, 9, 0, value));
        }
        due("3 line 20, from above to", BAD, engine.stripe(20, 9, 0, 5));
        dueCells("3 refused", engine, 1, want);
    }

    private static void promise4Weight() {
        WinogradEngine engine = new WinogradEngine();
        engine.set(44, 1);
        setWeights(engine, 0, 1, 2, 3, 4, 5, 6, 7, 8, 9);
        setWeights(engine, 1, -9, -8, -7, -6, -5, -4, -3, -2, -1);
        dueWeights("4 weight", engine, 0, 1, 2, 3, 4, 5, 6, 7, 8, 9);
        dueWeights("4 weight", engine, 1, -9, -8, -7, -6, -5, -4, -3, -2, -1);
        due("4 weight again", true, engine.weight(0, 8, -9));
        due("4 weight again", true, engine.weight(1, 0, 9));

        for (int f : NO_FILTERS) {
            due("4 filter " + f, false, engine.weight(f, 0, 0));
        }
        for (int number : NO_NUMBERS) {
            due("4 number " + number, false, engine.weight(0, number, 0));
            due("4 number " + number, false, engine.weight(1, number, 0));
        }
        for (int value : NO_WEIGHTS) {
            due("4 value " + value, false, engine.weight(0, 0, value));
            due("4 value " + value, false, engine.weight(1, 8, value));
        }
        dueWeights("4 refused", engine, 0, 1, 2, 3, 4, 5, 6, 7, 8, -9);
        dueWeights("4 refused", engine, 1, 9, -8, -7, -6, -5, -4, -3, -2, -1);
    }

    private static void promise5Response() {
        WinogradEngine engine = new WinogradEngine();
        setWeights(engine, 0, 1, 2, 3, 4, 5, 6, 7, 8, 9);
        setWeights(engine, 1, 9, 9, 9, 9, 9, 9, 9, 9, 9);
        fill(engine, 1);
        due("5 corner 0", 5 + 6 + 8 + 9, engine.response(0, 0));
        due("5 corner 9", 4 + 5 + 7 + 8, engine.response(0, 9));
        due("5 corner 90", 2 + 3 + 5 + 6, engine.response(0, 90));
        due("5 corner 99", 1 + 2 + 4 + 5, engine.response(0, 99));
        due("5 upper edge", 4 + 5 + 6 + 7 + 8 + 9, engine.response(0, 5));
        due("5 lower edge", 1 + 2 + 3 + 4 + 5 + 6, engine.response(0, 95));
        due("5 left edge", 2 + 3 + 5 + 6 + 8 + 9, engine.response(0, 50));
        due("5 right edge", 1 + 2 + 4 + 5 + 7 + 8, engine.response(0, 59));
        due("5 inside", 45, engine.response(0, 55));
        due("5 other filter", 81, engine.response(1, 55));
        fill(engine, -99);
        due("5 least", -8019, engine.response(1, 11));
        fill(engine, 99);
        due("5 most", 8019, engine.response(1, 88));
        for (int f : NO_FILTERS) {
            due("5 filter " + f, BAD, engine.response(f, 0));
        }
        for (int cell : NO_CELLS) {
            due("5 cell " + cell, BAD, engine.response(0, cell));
            due("5 cell " + cell, BAD, engine.response(1, cell));
        }
    }

    private static void promise6Second() {
        WinogradEngine engine = new WinogradEngine();
        setWeights(engine, 0, 0, 0, 0, 0, 0, 1, 0, 0, 0);
        setWeights(engine, 1, 0, 0, 0, 3, 0, 0, 0, 0, 0);
        engine.set(40, 7);
        engine.set(45, 2);
        // Filter 0 takes the value at the right, filter 1 thrice the one at the left:
        // beside the image filter 0 would see cell 40, but what lies there counts as 0.
        due("6 beside the image", 0, engine.second(40));
        due("6 inside", 6, engine.second(45));
        engine.set(49, 5);
        due("6 right edge", 15, engine.second(49));

        WinogradEngine crossed = new WinogradEngine();
        setWeights(crossed, 0, 0, 2, 0, 0, 0, 0, 0, 0, 0);
        setWeights(crossed, 1, 0, 0, 0, 0, 1, 0, 0, -1, 0);
        crossed.set(99, 10);
        crossed.set(79, 4);
        due("6 lower corner", 0, crossed.second(99));
        due("6 above the corner", 8, crossed.second(89));
        due("6 two above", -8, crossed.second(79));

        WinogradEngine full = new WinogradEngine();
        setWeights(full, 0, 9, 9, 9, 9, 9, 9, 9, 9, 9);
        setWeights(full, 1, 9, 9, 9, 9, 9, 9, 9, 9, 9);
        fill(full, 99);
        due("6 most, never cut", 8019 * 81, full.second(55));
        due("6 corner 0", 9 * 9 * 99 * (4 + 6 + 6 + 9), full.second(0));
        due("6 corner 99", 9 * 9 * 99 * (4 + 6 + 6 + 9), full.second(99));
        full.turn(0);
        setWeights(full, 1, -9, -9, -9, -9, -9, -9, -9, -9, -9);
        due("6 least", -8019 * 81, full.second(22));
        for (int cell : NO_CELLS) {
            due("6 cell " + cell, BAD, full.second(cell));
        }
        due("6 changes nothing", 891 * 9, full.response(0, 55));
    }

    private static void promises7And8GreatestAndWhere() {
        for (int f = 0; f < 2; f++) {
            for (int cell = 0; cell < 100; cell++) {
                WinogradEngine engine = mirror(f);
                engine.set(cell, 3);
                due("7 only cell " + cell, 3, engine.greatest(f));
                due("8 only cell " + cell, cell, engine.where(f));
                due("7 other filter", 0, engine.greatest(1 - f));
                due("8 other filter", 0, engine.where(1 - f));
            }
            WinogradEngine engine = mirror(f);
            fill(engine, -50);
            due("7 all the same below 0", -50, engine.greatest(f));
            due("8 all the same below 0", 0, engine.where(f));
            engine.set(73, -49);
            engine.set(37, -49);
            engine.set(99, -49);
            due("7 three the same", -49, engine.greatest(f));
            due("8 three the same", 37, engine.where(f));
            engine.weight(f, 4, -9);
            due("7 turned below", 450, engine.greatest(f));
            due("8 turned below", 0, engine.where(f));
            // Each asked right after a change, so that neither can lean on what the other worked out.
            WinogradEngine changed = mirror(f);
            changed.set(12, 5);
            due("8 after a change", 12, changed.where(f));
            changed.set(77, 6);
            due("7 after a change", 6, changed.greatest(f));
            changed.set(31, 7);
            due("8 after another change", 31, changed.where(f));
            // The cells beside the image have a response too, and it is not asked for.
            WinogradEngine beside = new WinogradEngine();
            beside.weight(f, 3, 9);
            beside.set(59, 99);
            due("7 beside", 0, beside.greatest(f));
            due("8 beside", 0, beside.where(f));
        }
        for (int f : NO_FILTERS) {
            due("7 filter " + f, BAD, mirror(0).greatest(f));
            due("8 filter " + f, BAD, mirror(0).where(f));
        }
    }

    private static void promise9Total() {
        for (int f = 0; f < 2; f++) {
            WinogradEngine engine = new WinogradEngine();
            setWeights(engine, f, 1, 2, 3, 4, 5, 6, 7, 8, 9);
            engine.set(55, 1);
            due("9 inside", 45, engine.total(f));
            due("9 other filter", 0, engine.total(1 - f));
            engine.set(55, 0);
            engine.set(0, 1);
            due("9 corner 0", 1 + 2 + 4 + 5, engine.total(f));
            engine.set(0, 0);
            engine.set(99, -1);
            due("9 corner 99", -5 - 6 - 8 - 9, engine.total(f));
            setWeights(engine, f, 9, 9, 9, 9, 9, 9, 9, 9, 9);
            fill(engine, 99);
            due("9 most", 891 * (64 * 9 + 32 * 6 + 4 * 4), engine.total(f));
            fill(engine, -99);
            due("9 least", -891 * (64 * 9 + 32 * 6 + 4 * 4), engine.total(f));
        }
        for (int f : NO_FILTERS) {
            due("9 filter " + f, BAD, mirror(0).total(f));
        }
    }

    private static void promise10Pooled() {
        for (int f = 0; f < 2; f++) {
            for (int cell = 0; cell < 100; cell++) {
                WinogradEngine engine = mirror(f);
                engine.set(cell, 4);
                for (int block = 0; block < 25; block++) {
                    boolean holds = block == 5 * (cell / 20) + cell % 10 / 2;
                    due("10 cell " + cell + " in block " + block, holds ? 4 : 0, engine.pooled(f, block));
                }
            }
            WinogradEngine engine = mirror(f);
            fill(engine, -20);
            engine.set(87, -19);
            due("10 below 0", -19, engine.pooled(f, 23));
            due("10 below 0", -20, engine.pooled(f, 24));
            for (int block : NO_BLOCKS) {
                due("10 block " + block, BAD, engine.pooled(f, block));
            }
        }
        for (int f : NO_FILTERS) {
            due("10 filter " + f, BAD, mirror(0).pooled(f, 0));
        }
    }

    private static void promise11Apply() {
        for (int f = 0; f < 2; f++) {
            WinogradEngine engine = mirror(1 - f);
            engine.weight(f, 4, 9);
            int[] before = {11, 12, -11, -12, 99, -99, 0, 1};
            int[] after = {99, 99, -99, -99, 99, -99, 0, 9};
            int[] want = new int[100];
            for (int k = 0; k < before.length; k++) {
                engine.set(90 + k, before[k]);
                want[90 + k] = after[k];
            }
            due("11 cut beyond 99, not at 99", 4, engine.apply(f));
            dueCells("11 cut", engine, 1 - f, want);

            // Shifts in each direction: the old cells count, not those just made.
            for (int number = 0; number < 9; number++) {
                shift(f, number);
            }
            WinogradEngine full = new WinogradEngine();
            full.weight(f, 4, 9);
            full.weight(f, 0, 9);
            fill(full, -99);
            due("11 all cut", 100, full.apply(f));
            due("11 weights stay", -1782, full.response(f, 55));
        }
        for (int f : NO_FILTERS) {
            WinogradEngine engine = mirror(0);
            engine.set(5, 5);
            int[] want = new int[100];
            want[5] = 5;
            due("11 filter " + f, BAD, engine.apply(f));
            dueCells("11 refused", engine, 0, want);
        }
    }

    private static void shift(int f, int number) {
        WinogradEngine engine = mirror(1 - f);
        engine.weight(f, number, 1);
        int[] want = new int[100];
        for (int cell = 0; cell < 100; cell++) {
            engine.set(cell, cell);
            int x = cell % 10 + number % 3 - 1;
            int y = cell / 10 + number / 3 - 1;
            want[cell] = x < 0 || x > 9 || y < 0 || y > 9 ? 0 : 10 * y + x;
        }
        due("11 shift " + number, 0, engine.apply(f));
        dueCells("11 shift " + number, engine, 1 - f, want);
    }

    private static void promise12Turn() {
        WinogradEngine engine = new WinogradEngine();
        engine.set(44, 1);
        setWeights(engine, 0, 1, 2, 3, 4, 5, 6, 7, 8, 9);
        setWeights(engine, 1, -1, -2, -3, -4, -5, -6, -7, -8, -9);
        due("12 turn(0)", true, engine.turn(0));
        dueWeights("12 turned", engine, 0, 9, 8, 7, 6, 5, 4, 3, 2, 1);
        dueWeights("12 not turned", engine, 1, -1, -2, -3, -4, -5, -6, -7, -8, -9);
        due("12 turn(1)", true, engine.turn(1));
        dueWeights("12 not turned", engine, 0, 9, 8, 7, 6, 5, 4, 3, 2, 1);
        dueWeights("12 turned", engine, 1, -9, -8, -7, -6, -5, -4, -3, -2, -1);
        due("12 turn(0) again", true, engine.turn(0));
        dueWeights("12 turned back", engine, 0, 1, 2, 3, 4, 5, 6, 7, 8, 9);
        for (int f : NO_FILTERS) {
            due("12 turn(" + f + ")", false, engine.turn(f));
        }
        dueWeights("12 refused", engine, 0, 1, 2, 3, 4, 5, 6, 7, 8, 9);
        dueWeights("12 refused", engine, 1, -9, -8, -7, -6, -5, -4, -3, -2, -1);
    }

    /** Every kind of refusal, then every cell and weight as it was. */
    private static void promise13RefusedCallsChangeNothing() {
        WinogradEngine engine = new WinogradEngine();
        engine.set(44, 1);
        setWeights(engine, 0, 0, 0, 0, 0, 1, 0, 0, 0, 0);
        setWeights(engine, 1, 1, 2, 3, 4, 5, 6, 7, 8, 9);
        for (int cell : NO_CELLS) {
            due("13 set", false, engine.set(cell, 9));
            due("13 response", BAD, engine.response(1, cell));
            due("13 second", BAD, engine.second(cell));
        }
        for (int value : NO_VALUES) {
            due("13 set", false, engine.set(44, value));
            due("13 stripe", BAD, engine.stripe(4, 0, 9, value));
        }
        for (int line : NO_LINES) {
            due("13 stripe", BAD, engine.stripe(line, 0, 9, 9));
        }
        for (int place : NO_PLACES) {
            due("13 stripe", BAD, engine.stripe(4, place, 9, 9));
            due("13 stripe", BAD, engine.stripe(4, 0, place, 9));
        }
        for (int number : NO_NUMBERS) {
            due("13 weight", false, engine.weight(0, number, 9));
        }
        for (int value : NO_WEIGHTS) {
            due("13 weight", false, engine.weight(1, 4, value));
        }
        for (int block : NO_BLOCKS) {
            due("13 pooled", BAD, engine.pooled(1, block));
        }
        for (int f : NO_FILTERS) {
            due("13 weight", false, engine.weight(f, 4, 9));
            due("13 response", BAD, engine.response(f, 44));
            due("13 greatest", BAD, engine.greatest(f));
            due("13 where", BAD, engine.where(f));
            due("13 total", BAD, engine.total(f));
            due("13 pooled", BAD, engine.pooled(f, 12));
            due("13 apply", BAD, engine.apply(f));
            due("13 turn", false, engine.turn(f));
        }
        int[] want = new int[100];
        want[44] = 1;
        dueCells("13 refused", engine, 0, want);
        dueWeights("13 refused", engine, 0, 0, 0, 0, 0, 1, 0, 0, 0, 0);
        dueWeights("13 refused", engine, 1, 1, 2, 3, 4, 5, 6, 7, 8, 9);
    }

    /** What only asks must leave the cells and weights alone as well. */
    private static void askingChangesNothing() {
        WinogradEngine engine = new WinogradEngine();
        engine.set(44, 1);
        setWeights(engine, 0, 9, 9, 9, 9, 9, 9, 9, 9, 9);
        setWeights(engine, 1, 1, 2, 3, 4, 5, 6, 7, 8, 9);
        for (int f = 0; f < 2; f++) {
            engine.response(f, 44);
            engine.second(44);
            engine.greatest(f);
            engine.where(f);
            engine.total(f);
            engine.pooled(f, 12);
        }
        dueWeights("asking", engine, 0, 9, 9, 9, 9, 9, 9, 9, 9, 9);
        dueWeights("asking", engine, 1, 1, 2, 3, 4, 5, 6, 7, 8, 9);
        setWeights(engine, 0, 0, 0, 0, 0, 1, 0, 0, 0, 0);
        int[] want = new int[100];
        want[44] = 1;
        dueCells("asking", engine, 0, want);
    }

    public static void main(String[] args) {
        promise1NewObject();
        promise2Set();
        promise3Stripe();
        promise4Weight();
        promise5Response();
        promise6Second();
        promises7And8GreatestAndWhere();
        promise9Total();
        promise10Pooled();
        promise11Apply();
        promise12Turn();
        promise13RefusedCallsChangeNothing();
        askingChangesNothing();
        System.out.println(wrong == 0 ? "all answers are as due" : wrong + " answers are not as due");
        if (wrong != 0) {
            System.exit(1);
        }
    }
}
