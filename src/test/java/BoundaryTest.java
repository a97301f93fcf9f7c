import java.util.Arrays;

/**
 * One method for each sentence of the document that names a boundary case; the sentence stands above it.
 * At each end of a range the last value that is taken and the first that is not are tried, and after each of these
 * calls all cells and all weights are looked at, not the answer alone.
 */
public final class BoundaryTest {
    private static final int BAD = -1000000000;
    private static final int NO = 0;
    private static final int YES = 1;
    private static final int MIN = Integer.MIN_VALUE;
    private static final int MAX = Integer.MAX_VALUE;

    private static int looked = 0;
    private static int wrong = 0;

    /** A call to be tried on an object; false counts 0 and true 1. */
    private interface Call {
        int on(WinogradEngine engine);
    }

    /** A call with one argument left open, to be tried at the ends of that argument's range. */
    private interface OpenCall {
        int on(WinogradEngine engine, int argument);
    }

    /** All that an object holds. */
    private static final class State {
        final int[] cells = new int[100];
        final int[] weights = new int[18];

        State cell(int cell, int value) {
            cells[cell] = value;
            return this;
        }

        State weight(int f, int number, int value) {
            weights[9 * f + number] = value;
            return this;
        }

        State allCells(int value) {
            Arrays.fill(cells, value);
            return this;
        }

        State allWeights(int f, int value) {
            Arrays.fill(weights, 9 * f, 9 * f + 9, value);
            return this;
        }

        WinogradEngine engine() {
            WinogradEngine engine = new WinogradEngine();
            for (int cell = 0; cell < 100; cell++) {
                engine.set(cell, cells[cell]);
            }
            for (int k = 0; k < 18; k++) {
                engine.weight(k / 9, k % 9, weights[k]);
            }
            return engine;
        }
    }

    /**
     * No two cells are the same here, nor two weights of a filter; no cell is 5, 99 or -99 and no weight is 0, so that
     * a refused call that writes one of these is seen.
     */
    private static State marked() {
        State state = new State();
        for (int cell = 0; cell < 100; cell++) {
            state.cells[cell] = (73 * cell + 1) % 199 - 99;
        }
        for (int k = 0; k < 18; k++) {
            state.weights[k] = (7 * k + 16) % 19 - 9;
        }
        return state;
    }

    private static int counted(boolean answer) {
        return answer ? YES : NO;
    }

    private static void due(String call, int want, int got) {
        looked++;
        if (got != want) {
            wrong++;
            if (wrong <= 100) {
                System.out.println(call + " answered " + got + ", due is " + want);
            }
        }
    }

    /** The call's answer, and all that the object holds after it. */
    private static void after(String what, State start, Call call, int answer, State end) {
        WinogradEngine shown = start.engine();
        due(what, answer, call.on(shown));
        for (int number = 0; number < 9; number++) {
            shown.weight(0, number, number == 4 ? 1 : 0);
        }
        for (int cell = 0; cell < 100; cell++) {
            due(what + ", then cell " + cell, end.cells[cell], shown.response(0, cell));
        }
        // To see the weights the image must be overwritten, so a second object made the same way shows them.
        WinogradEngine twin = start.engine();
        due(what, answer, call.on(twin));
        for (int line = 0; line < 10; line++) {
            twin.stripe(line, 0, 9, 0);
        }
        twin.set(44, 1);
        for (int k = 0; k < 18; k++) {
            int cell = 44 - (k % 3 - 1) - 10 * (k % 9 / 3 - 1);
            due(what + ", then weight " + k % 9 + " of filter " + k / 9, end.weights[k], twin.response(k / 9, cell));
        }
    }

    private static void refused(String what, int code, Call call) {
        after(what, marked(), call, code, marked());
    }

    /** The first values beside the range, and those farthest from it, are refused and change nothing. */
    private static void refusedBeside(String what, int low, int high, int code, OpenCall call) {
        int[] beside = {low - 1, low - 2, low - 100, MIN, MIN + 1, high + 1, high + 2, high + 100, MAX, MAX - 1};
        for (int argument : beside) {
            refused(what + " " + argument, code, engine -> call.on(engine, argument));
        }
    }

    /** A call that asks answers as due and changes nothing. */
    private static void asked(String what, State state, int answer, Call call) {
        after(what, state, call, answer, state);
    }

    private static boolean inside(int x, int y) {
        return x >= 0 && x <= 9 && y >= 0 && y <= 9;
    }

    // ---- What it is

    /** "An object is used for at most 512 calls after it has been made" */
    private static void call512IsStillAnswered() {
        State state = new State().cell(12, 3).weight(0, 4, 1).weight(1, 5, -2);
        last("set", state, YES, engine -> counted(engine.set(99, 99)));
        last("set refused", state, NO, engine -> counted(engine.set(100, 99)));
        last("stripe", state, 10, engine -> engine.stripe(19, 0, 9, 99));
        last("stripe refused", state, BAD, engine -> engine.stripe(20, 0, 9, 99));
        last("weight", state, YES, engine -> counted(engine.weight(1, 8, 9)));
        last("weight refused", state, NO, engine -> counted(engine.weight(1, 9, 9)));
        last("response", state, -6, engine -> engine.response(1, 11));
        last("response refused", state, BAD, engine -> engine.response(1, 100));
        last("second", state, -6, engine -> engine.second(11));
        last("second refused", state, BAD, engine -> engine.second(-1));
        last("greatest", state, 3, engine -> engine.greatest(0));
        last("greatest refused", state, BAD, engine -> engine.greatest(2));
        last("where", state, 12, engine -> engine.where(0));
        last("where refused", state, BAD, engine -> engine.where(-1));
        last("total", state, -6, engine -> engine.total(1));
        last("total refused", state, BAD, engine -> engine.total(2));
        last("pooled", state, 3, engine -> engine.pooled(0, 1));
        last("pooled refused", state, BAD, engine -> engine.pooled(0, 25));
        last("apply", state, 0, engine -> engine.apply(1));
        last("apply refused", state, BAD, engine -> engine.apply(-1));
        last("turn", state, YES, engine -> counted(engine.turn(1)));
        last("turn refused", state, NO, engine -> counted(engine.turn(2)));
    }

    /** The state takes 118 calls; the rest up to the 511th are refused or change nothing. */
    private static void last(String what, State state, int answer, Call call) {
        WinogradEngine engine = state.engine();
        for (int made = 118; made < 511; made++) {
            switch (made % 4) {
                case 0: due("512 calls: refused set", NO, counted(engine.set(-1, 5))); break;
                case 1: due("512 calls: greatest(0)", 3, engine.greatest(0)); break;
                case 2: due("512 calls: empty stripe", 0, engine.stripe(0, 1, 0, 5)); break;
                default: due("512 calls: apply(0)", 0, engine.apply(0)); break;
            }
        }
        due("512 calls: the last, " + what, answer, call.on(engine));
    }

    /** "An object is used for at most 512 calls after it has been made": 509 changes all tell in the last answer. */
    private static void changesUpToCall512AllCount() {
        WinogradEngine negated = new WinogradEngine();
        negated.set(99, 99);
        negated.weight(1, 4, -1);
        for (int call = 3; call < 512; call++) {
            due("512 calls: apply, call " + call, 0, negated.apply(1));
        }
        due("512 calls: after 509 applies", 99, negated.response(1, 99));

        WinogradEngine turned = new WinogradEngine();
        turned.set(11, 7);
        turned.weight(0, 0, 9);
        for (int call = 3; call < 512; call++) {
            due("512 calls: turn, call " + call, YES, counted(turned.turn(0)));
        }
        due("512 calls: after 509 turns", 63, turned.response(0, 0));
    }

    // ---- Terms

    /** "An IMAGE has 10 by 10 cells with whole numbers from -99 to 99" */
    private static void everyCellTakesEveryEndOfTheRange() {
        for (int cell = 0; cell < 100; cell++) {
            int at = cell;
            for (int value : new int[] {-99, -98, 0, 98, 99}) {
                after("terms: set(" + cell + ", " + value + ")", marked(),
                        engine -> counted(engine.set(at, value)), YES, marked().cell(cell, value));
            }
        }
    }

    /** "cell (x, y), x and y from 0 to 9, has the number 10 * y + x" */
    private static void numbersOfCellsAtTheEndsOfRows() {
        int[][] places = {{0, 0, 0}, {9, 0, 9}, {0, 1, 10}, {9, 8, 89}, {0, 9, 90}, {9, 9, 99}};
        for (int[] place : places) {
            State one = new State().cell(place[2], 6);
            after("terms: cell (" + place[0] + ", " + place[1] + ") as a place of its row", new State(),
                    engine -> engine.stripe(place[1], place[0], place[0], 6), 1, one);
            after("terms: cell (" + place[0] + ", " + place[1] + ") as a place of its column", new State(),
                    engine -> engine.stripe(10 + place[0], place[1], place[1], 6), 1, one);
        }
    }

    /** "beside the image everything counts as 0": what a weight sees beyond each side and each corner. */
    private static void besideTheImageIsZero() {
        for (int k = 0; k < 18; k++) {
            int f = k / 9;
            int number = k % 9;
            State state = new State().allCells(7).weight(f, number, 1);
            State moved = new State().weight(f, number, 1);
            WinogradEngine engine = state.engine();
            int seen = 0;
            for (int cell = 0; cell < 100; cell++) {
                boolean sees = inside(cell % 10 + number % 3 - 1, cell / 10 + number / 3 - 1);
                moved.cell(cell, sees ? 7 : 0);
                seen += sees ? 7 : 0;
                due("terms: weight " + number + " at cell " + cell, sees ? 7 : 0, engine.response(f, cell));
            }
            asked("terms: total, weight " + number, state, seen, object -> object.total(f));
            after("terms: apply, weight " + number, state, object -> object.apply(f), 0, moved);
        }
    }

    /** "beside the image everything counts as 0": a cell at one side is no neighbour of one at the other side. */
    private static void rowsAndColumnsDoNotWrapRound() {
        for (int cell = 0; cell < 100; cell++) {
            for (int f = 0; f < 2; f++) {
                int filter = f;
                State state = new State().cell(cell, -7).allWeights(f, 1);
                State spread = new State().allWeights(f, 1);
                WinogradEngine engine = state.engine();
                int near = 0;
                for (int other = 0; other < 100; other++) {
                    boolean touches = Math.abs(other % 10 - cell % 10) <= 1 && Math.abs(other / 10 - cell / 10) <= 1;
                    near += touches ? 1 : 0;
                    spread.cell(other, touches ? -7 : 0);
                    due("terms: cell " + cell + " seen from " + other, touches ? -7 : 0, engine.response(f, other));
                }
                due("terms: all that see cell " + cell, -7 * near, engine.total(f));
                after("terms: apply around cell " + cell, state, object -> object.apply(filter), 0, spread);
            }
        }
    }

    /** "A FILTER has 3 by 3 WEIGHTS, whole numbers from -9 to 9" and "There are two filters, 0 and 1" */
    private static void everyWeightTakesEveryEndOfTheRange() {
        for (int k = 0; k < 18; k++) {
            int f = k / 9;
            int number = k % 9;
            for (int value : new int[] {-9, -8, 0, 8, 9}) {
                after("terms: weight(" + f + ", " + number + ", " + value + ")", marked(),
                        engine -> counted(engine.weight(f, number, value)), YES, marked().weight(f, number, value));
            }
        }
    }

    /** "weight (i, j), i and j from 0 to 2, has the number 3 * j + i" and "the image at (x + i - 1, y + j - 1)" */
    private static void everyWeightLooksAtItsOwnNeighbour() {
        for (int j = 0; j < 3; j++) {
            for (int i = 0; i < 3; i++) {
                State state = new State().cell(10 * (5 + j - 1) + 5 + i - 1, 99).weight(1, 3 * j + i, -9);
                asked("terms: weight (" + i + ", " + j + ")", state, -891, engine -> engine.response(1, 55));
                for (int other = 0; other < 9; other++) {
                    int number = other;
                    int want = number == 3 * j + i ? 99 : 0;
                    State single = new State().cell(10 * (5 + j - 1) + 5 + i - 1, 99).weight(0, number, 1);
                    asked("terms: weight " + number + " at (" + i + ", " + j + ")", single, want,
                            engine -> engine.response(0, 55));
                }
            }
        }
    }

    /** "The RESPONSE at (x, y) ... is the sum": the farthest sums that the ranges allow. */
    private static void greatestAndLeastResponses() {
        int[][] ends = {{99, 9, 8019}, {-99, -9, 8019}, {99, -9, -8019}, {-99, 9, -8019}};
        for (int[] end : ends) {
            for (int f = 0; f < 2; f++) {
                int filter = f;
                State state = new State().allCells(end[0]).allWeights(f, end[1]);
                String what = "terms: cells " + end[0] + ", weights " + end[1] + ": ";
                asked(what + "inside", state, end[2], engine -> engine.response(filter, 11));
                asked(what + "inside", state, end[2], engine -> engine.response(filter, 88));
                asked(what + "side", state, end[2] / 9 * 6, engine -> engine.response(filter, 5));
                asked(what + "corner", state, end[2] / 9 * 4, engine -> engine.response(filter, 0));
                asked(what + "total", state, end[2] / 9 * 784, engine -> engine.total(filter));
                asked(what + "block inside", state, end[2], engine -> engine.pooled(filter, 12));
                asked(what + "block in the corner", state, end[2] > 0 ? end[2] : end[2] / 9 * 4,
                        engine -> engine.pooled(filter, 0));
                asked(what + "greatest", state, end[2] > 0 ? end[2] : end[2] / 9 * 4, engine -> engine.greatest(filter));
                asked(what + "where", state, end[2] > 0 ? 11 : 0, engine -> engine.where(filter));
            }
        }
    }

    /** "the responses of filter 0 at the cells 0 to 9 (and 0 beside)": beyond each side and corner, for each pair of weights. */
    private static void secondSeesZeroBeside() {
        for (int inner = 0; inner < 9; inner++) {
            for (int outer = 0; outer < 9; outer++) {
                WinogradEngine engine = new State().allCells(7).weight(0, inner, 1).weight(1, outer, 1).engine();
                for (int cell = 0; cell < 100; cell++) {
                    int x = cell % 10 + outer % 3 - 1;
                    int y = cell / 10 + outer / 3 - 1;
                    boolean sees = inside(x, y) && inside(x + inner % 3 - 1, y + inner / 3 - 1);
                    due("terms: second(" + cell + "), weights " + inner + " and " + outer, sees ? 7 : 0, engine.second(cell));
                }
            }
        }
    }

    /** "the response of filter 1 to the image whose cells are the responses of filter 0": these are not cut to -99..99. */
    private static void secondIsOfUncutResponses() {
        int[][] ends = {{99, 9, 9, 649539}, {99, 9, -9, -649539}, {-99, 9, 9, -649539}, {-99, -9, 9, 649539}};
        for (int[] end : ends) {
            State state = new State().allCells(end[0]).allWeights(0, end[1]).allWeights(1, end[2]);
            asked("terms: farthest second response inside", state, end[3], engine -> engine.second(22));
            asked("terms: farthest second response inside", state, end[3], engine -> engine.second(77));
            asked("terms: farthest second response in a corner", state, end[3] / 81 * 25, engine -> engine.second(0));
            asked("terms: farthest second response in a corner", state, end[3] / 81 * 25, engine -> engine.second(99));
        }
        State justOver = new State().cell(44, 99).cell(45, 1).weight(0, 4, 1).weight(0, 5, 1).weight(1, 4, 1);
        asked("terms: second response 100", justOver, 100, engine -> engine.second(44));
        State justUnder = new State().cell(44, -99).cell(45, -1).weight(0, 4, 1).weight(0, 5, 1).weight(1, 4, 1);
        asked("terms: second response -100", justUnder, -100, engine -> engine.second(44));
    }

    // ---- Promise 1: A new object

    /** All cells and weights of objects on which nothing was called before. */
    private static void dueEmpty(String what) {
        for (int f = 0; f < 2; f++) {
            WinogradEngine image = new WinogradEngine();
            image.weight(f, 4, 9);
            WinogradEngine filter = new WinogradEngine();
            filter.set(44, 99);
            for (int cell = 0; cell < 100; cell++) {
                due(what + ": cell " + cell, 0, image.response(f, cell));
                due(what + ": filter " + f + " at cell " + cell, 0, filter.response(f, cell));
            }
        }
    }

    /** "All cells and weights are 0." */
    private static void newObjectIsEmpty() {
        dueEmpty("1: a new object");
        for (int f = 0; f < 2; f++) {
            due("1: greatest of a new object", 0, new WinogradEngine().greatest(f));
            due("1: where of a new object", 0, new WinogradEngine().where(f));
            due("1: total of a new object", 0, new WinogradEngine().total(f));
            due("1: first pooled of a new object", 0, new WinogradEngine().pooled(f, 0));
            due("1: last pooled of a new object", 0, new WinogradEngine().pooled(f, 24));
            due("1: apply of a new object", 0, new WinogradEngine().apply(f));
            due("1: turn of a new object", YES, counted(new WinogradEngine().turn(f)));
        }
        due("1: first second response of a new object", 0, new WinogradEngine().second(0));
        due("1: last second response of a new object", 0, new WinogradEngine().second(99));
    }

    /** "All cells and weights are 0.": also while another object is not empty, which stays as it was. */
    private static void newObjectSharesNothing() {
        WinogradEngine used = marked().engine();
        int second = used.second(55);
        int total = used.total(1);
        dueEmpty("1: a new object beside a used one");
        due("1: a used object beside new ones", second, used.second(55));
        due("1: a used object beside new ones", total, used.total(1));
    }

    // ---- Promise 2: set

    /** "cell outside 0..99 ...: refused, answers false. Else true." */
    private static void setAtTheEndsOfCell() {
        after("2: set(0, 5)", marked(), engine -> counted(engine.set(0, 5)), YES, marked().cell(0, 5));
        after("2: set(99, 5)", marked(), engine -> counted(engine.set(99, 5)), YES, marked().cell(99, 5));
        refusedBeside("2: set with cell", 0, 99, NO, (engine, cell) -> counted(engine.set(cell, 5)));
    }

    /** "... or value outside -99..99: refused, answers false. Else true." */
    private static void setAtTheEndsOfValue() {
        after("2: set(44, -99)", marked(), engine -> counted(engine.set(44, -99)), YES, marked().cell(44, -99));
        after("2: set(44, 99)", marked(), engine -> counted(engine.set(44, 99)), YES, marked().cell(44, 99));
        refusedBeside("2: set with value", -99, 99, NO, (engine, value) -> counted(engine.set(44, value)));
        refusedBeside("2: set at cell 0 with value", -99, 99, NO, (engine, value) -> counted(engine.set(0, value)));
        refusedBeside("2: set at cell 99 with value", -99, 99, NO, (engine, value) -> counted(engine.set(99, value)));
    }

    /** "Sets a cell.": also to what it is already, and over what it was. */
    private static void setOverASetCell() {
        int same = marked().cells[44];
        after("2: set to the same", marked(), engine -> counted(engine.set(44, same)), YES, marked());
        State full = new State().cell(44, 99);
        after("2: set from 99 to -99", full, engine -> counted(engine.set(44, -99)), YES, new State().cell(44, -99));
        after("2: set from 99 to 0", full, engine -> counted(engine.set(44, 0)), YES, new State());
    }

    // ---- Promise 3: stripe

    private static State striped(int line, int from, int to, int value) {
        State state = marked();
        for (int place = from; place <= to; place++) {
            state.cell(line < 10 ? 10 * line + place : 10 * place + line - 10, value);
        }
        return state;
    }

    private static void stripeTaken(int line, int from, int to, int value, int count) {
        after("3: stripe(" + line + ", " + from + ", " + to + ", " + value + ")", marked(),
                engine -> engine.stripe(line, from, to, value), count, striped(line, from, to, value));
    }

    /** "row number line (line 0 to 9), or of column number line - 10 (line 10 to 19)" and "line outside 0..19 ...: BAD" */
    private static void stripeAtTheEndsOfLine() {
        for (int line = 0; line < 20; line++) {
            stripeTaken(line, 0, 9, 5, 10);
            stripeTaken(line, 2, 4, 5, 3);
        }
        refusedBeside("3: stripe with line", 0, 19, BAD, (engine, line) -> engine.stripe(line, 0, 9, 5));
        refusedBeside("3: stripe of one cell with line", 0, 19, BAD, (engine, line) -> engine.stripe(line, 0, 0, 5));
    }

    /** "from ... outside 0..9 ...: BAD" */
    private static void stripeAtTheEndsOfFrom() {
        for (int line : new int[] {0, 4, 9, 10, 14, 19}) {
            stripeTaken(line, 0, 3, 5, 4);
            stripeTaken(line, 9, 9, 5, 1);
            refusedBeside("3: stripe of line " + line + " with from", 0, 9, BAD, (engine, from) -> engine.stripe(line, from, 9, 5));
        }
    }

    /** "... or to outside 0..9 ...: BAD" */
    private static void stripeAtTheEndsOfTo() {
        for (int line : new int[] {0, 4, 9, 10, 14, 19}) {
            stripeTaken(line, 0, 0, 5, 1);
            stripeTaken(line, 6, 9, 5, 4);
            refusedBeside("3: stripe of line " + line + " with to", 0, 9, BAD, (engine, to) -> engine.stripe(line, 0, to, 5));
        }
    }

    /** "... or value outside -99..99: BAD." */
    private static void stripeAtTheEndsOfValue() {
        for (int line : new int[] {0, 9, 10, 19}) {
            stripeTaken(line, 0, 9, -99, 10);
            stripeTaken(line, 0, 9, 99, 10);
            refusedBeside("3: stripe of line " + line + " with value", -99, 99, BAD, (engine, value) -> engine.stripe(line, 0, 9, value));
        }
    }

    /** "Else answers how many cells were set (0 if from is above to)." */
    private static void stripeCountsForEveryFromAndTo() {
        for (int from = 0; from < 10; from++) {
            for (int to = 0; to < 10; to++) {
                int count = from > to ? 0 : to - from + 1;
                stripeTaken(3, from, to, 5, count);
                stripeTaken(13, from, to, 5, count);
            }
        }
    }

    /** "line outside 0..19, from or to outside 0..9, or value outside -99..99: BAD." stands before "Else ... (0 if from is above to)" */
    private static void emptyStripeIsStillRefused() {
        refusedBeside("3: empty stripe with line", 0, 19, BAD, (engine, line) -> engine.stripe(line, 9, 0, 5));
        refusedBeside("3: empty stripe with value", -99, 99, BAD, (engine, value) -> engine.stripe(4, 9, 0, value));
        refused("3: empty stripe from 10", BAD, engine -> engine.stripe(4, 10, 9, 5));
        refused("3: empty stripe to -1", BAD, engine -> engine.stripe(4, 0, -1, 5));
        refused("3: empty stripe from 10 to -1", BAD, engine -> engine.stripe(14, 10, -1, 5));
    }

    /** "Else answers how many cells were set": also those that had the value before. */
    private static void stripeCountsCellsThatStayTheSame() {
        State flat = new State().allCells(5);
        after("3: stripe over the same value", flat, engine -> engine.stripe(0, 0, 9, 5), 10, flat);
        after("3: stripe over the same value", flat, engine -> engine.stripe(19, 3, 4, 5), 2, flat);
    }

    // ---- Promise 4: weight

    /** "f outside 0..1 ...: refused, answers false. Else true." */
    private static void weightAtTheEndsOfF() {
        after("4: weight(0, 4, 5)", new State(), engine -> counted(engine.weight(0, 4, 5)), YES, new State().weight(0, 4, 5));
        after("4: weight(1, 4, 5)", new State(), engine -> counted(engine.weight(1, 4, 5)), YES, new State().weight(1, 4, 5));
        for (int number = 0; number < 9; number++) {
            int at = number;
            refusedBeside("4: weight " + number + " with f", 0, 1, NO, (engine, f) -> counted(engine.weight(f, at, 0)));
        }
    }

    /** "number outside 0..8 ...: refused, answers false. Else true.": nor does it reach over into the other filter. */
    private static void weightAtTheEndsOfNumber() {
        for (int f = 0; f < 2; f++) {
            int filter = f;
            after("4: number 0", marked(), engine -> counted(engine.weight(filter, 0, 0)), YES, marked().weight(f, 0, 0));
            after("4: number 8", marked(), engine -> counted(engine.weight(filter, 8, 0)), YES, marked().weight(f, 8, 0));
            refusedBeside("4: filter " + f + " with number", 0, 8, NO, (engine, number) -> counted(engine.weight(filter, number, 0)));
        }
        for (int number = -9; number < 0; number++) {
            int at = number;
            refused("4: weight(1, " + number + ", 0)", NO, engine -> counted(engine.weight(1, at, 0)));
            refused("4: weight(2, " + number + ", 0)", NO, engine -> counted(engine.weight(2, at, 0)));
        }
        for (int number = 9; number < 18; number++) {
            int at = number;
            refused("4: weight(0, " + number + ", 0)", NO, engine -> counted(engine.weight(0, at, 0)));
            refused("4: weight(-1, " + number + ", 0)", NO, engine -> counted(engine.weight(-1, at, 0)));
        }
    }

    /** "... or value outside -9..9: refused, answers false. Else true." */
    private static void weightAtTheEndsOfValue() {
        for (int k = 0; k < 18; k++) {
            int f = k / 9;
            int number = k % 9;
            after("4: value -9", marked(), engine -> counted(engine.weight(f, number, -9)), YES, marked().weight(f, number, -9));
            after("4: value 9", marked(), engine -> counted(engine.weight(f, number, 9)), YES, marked().weight(f, number, 9));
            refusedBeside("4: weight " + number + " of filter " + f + " with value", -9, 9, NO,
                    (engine, value) -> counted(engine.weight(f, number, value)));
        }
    }

    // ---- Promise 5: response

    /** Both filters answer unlike here: filter 0 gives each cell itself, filter 1 its double with the other sign. */
    private static State twoFilters() {
        return new State().cell(0, 4).cell(57, 6).cell(99, -8).weight(0, 4, 1).weight(1, 4, -2);
    }

    /** "BAD for f outside 0..1 ..." */
    private static void responseAtTheEndsOfF() {
        asked("5: response(0, 57)", twoFilters(), 6, engine -> engine.response(0, 57));
        asked("5: response(1, 57)", twoFilters(), -12, engine -> engine.response(1, 57));
        refusedBeside("5: response with f", 0, 1, BAD, (engine, f) -> engine.response(f, 57));
    }

    /** "... or cell outside 0..99." */
    private static void responseAtTheEndsOfCell() {
        asked("5: response(0, 0)", twoFilters(), 4, engine -> engine.response(0, 0));
        asked("5: response(0, 99)", twoFilters(), -8, engine -> engine.response(0, 99));
        asked("5: response(1, 0)", twoFilters(), -8, engine -> engine.response(1, 0));
        asked("5: response(1, 99)", twoFilters(), 16, engine -> engine.response(1, 99));
        refusedBeside("5: response of filter 0 with cell", 0, 99, BAD, (engine, cell) -> engine.response(0, cell));
        refusedBeside("5: response of filter 1 with cell", 0, 99, BAD, (engine, cell) -> engine.response(1, cell));
    }

    // ---- Promise 6: second

    /** "BAD for cell outside 0..99." */
    private static void secondAtTheEndsOfCell() {
        asked("6: second(0)", twoFilters(), -8, engine -> engine.second(0));
        asked("6: second(99)", twoFilters(), 16, engine -> engine.second(99));
        refusedBeside("6: second with cell", 0, 99, BAD, (engine, cell) -> engine.second(cell));
    }

    // ---- Promise 7: greatest

    /** "BAD for f outside 0..1." */
    private static void greatestAtTheEndsOfF() {
        asked("7: greatest(0)", twoFilters(), 6, engine -> engine.greatest(0));
        asked("7: greatest(1)", twoFilters(), 16, engine -> engine.greatest(1));
        refusedBeside("7: greatest with f", 0, 1, BAD, (engine, f) -> engine.greatest(f));
    }

    /** "The greatest response of a filter at a cell of the image": the first cell, the last one, and none above 0. */
    private static void greatestAtTheEndsOfTheImage() {
        for (int f = 0; f < 2; f++) {
            int filter = f;
            for (int cell : new int[] {0, 9, 90, 99}) {
                State state = new State().allCells(-99).cell(cell, -98).weight(f, 4, 1);
                asked("7: greatest at cell " + cell, state, -98, engine -> engine.greatest(filter));
            }
            State flat = new State().allCells(-99).weight(f, 4, 9);
            asked("7: all responses -891", flat, -891, engine -> engine.greatest(filter));
        }
    }

    /** "at a cell of the image": greater responses beside the image do not count, at any of the four sides. */
    private static void greatestLeavesOutWhatIsBeside() {
        int[][] sides = {{3, 59}, {5, 50}, {1, 95}, {7, 5}, {0, 99}, {2, 90}, {6, 9}, {8, 0}};
        for (int[] side : sides) {
            for (int f = 0; f < 2; f++) {
                int filter = f;
                State state = new State().cell(side[1], 99).weight(f, side[0], 9);
                asked("7: only a response beside", state, 0, engine -> engine.greatest(filter));
                asked("8: only a response beside", state, 0, engine -> engine.where(filter));
                asked("9: only a response beside", state, 0, engine -> engine.total(filter));
            }
        }
    }

    // ---- Promise 8: where

    /** "BAD for f outside 0..1." */
    private static void whereAtTheEndsOfF() {
        asked("8: where(0)", twoFilters(), 57, engine -> engine.where(0));
        asked("8: where(1)", twoFilters(), 99, engine -> engine.where(1));
        refusedBeside("8: where with f", 0, 1, BAD, (engine, f) -> engine.where(f));
    }

    /** "The smallest cell with the greatest response": every pair of cells that share it. */
    private static void whereIsTheSmallestOfTwo() {
        for (int low = 0; low < 100; low++) {
            for (int high = low; high < 100; high++) {
                WinogradEngine engine = new WinogradEngine();
                engine.set(high, 1);
                engine.set(low, 1);
                engine.weight(low % 2, 4, 1);
                due("8: where of cells " + low + " and " + high, low, engine.where(low % 2));
            }
        }
    }

    /** "The smallest cell with the greatest response": all cells share it, or it stands at an end of the image. */
    private static void whereAtTheEndsOfTheImage() {
        for (int f = 0; f < 2; f++) {
            int filter = f;
            for (int value : new int[] {-99, 0, 99}) {
                State flat = new State().allCells(value).weight(f, 4, 1);
                asked("8: all cells " + value, flat, 0, engine -> engine.where(filter));
            }
            for (int cell : new int[] {0, 1, 9, 10, 90, 98, 99}) {
                State state = new State().allCells(-99).cell(cell, -98).weight(f, 4, 1);
                asked("8: greatest at cell " + cell, state, cell, engine -> engine.where(filter));
            }
        }
    }

    // ---- Promise 9: total

    /** "BAD for f outside 0..1." */
    private static void totalAtTheEndsOfF() {
        asked("9: total(0)", twoFilters(), 2, engine -> engine.total(0));
        asked("9: total(1)", twoFilters(), -4, engine -> engine.total(1));
        refusedBeside("9: total with f", 0, 1, BAD, (engine, f) -> engine.total(f));
    }

    /** "The sum of the responses of a filter at all cells of the image": each cell counts once, the first and the last too. */
    private static void totalCountsEveryCell() {
        for (int f = 0; f < 2; f++) {
            for (int cell = 0; cell < 100; cell++) {
                WinogradEngine engine = new State().cell(cell, -99).weight(f, 4, 9).engine();
                due("9: total of cell " + cell + " alone", -891, engine.total(f));
                due("9: total of the other filter", 0, engine.total(1 - f));
            }
        }
    }

    // ---- Promise 10: pooled

    /** "BAD for f outside 0..1 ..." */
    private static void pooledAtTheEndsOfF() {
        asked("10: pooled(0, 13)", twoFilters(), 6, engine -> engine.pooled(0, 13));
        asked("10: pooled(1, 24)", twoFilters(), 16, engine -> engine.pooled(1, 24));
        refusedBeside("10: pooled with f", 0, 1, BAD, (engine, f) -> engine.pooled(f, 13));
    }

    /** "... or block outside 0..24." */
    private static void pooledAtTheEndsOfBlock() {
        asked("10: pooled(0, 0)", twoFilters(), 4, engine -> engine.pooled(0, 0));
        asked("10: pooled(0, 24)", twoFilters(), 0, engine -> engine.pooled(0, 24));
        asked("10: pooled(1, 0)", twoFilters(), 0, engine -> engine.pooled(1, 0));
        refusedBeside("10: pooled of filter 0 with block", 0, 24, BAD, (engine, block) -> engine.pooled(0, block));
        refusedBeside("10: pooled of filter 1 with block", 0, 24, BAD, (engine, block) -> engine.pooled(1, block));
    }

    /** "two by two cells (2 * x, 2 * y) to (2 * x + 1, 2 * y + 1)", "block number 5 * y + x": the four corners of every block. */
    private static void pooledHoldsItsFourCells() {
        for (int block = 0; block < 25; block++) {
            int corner = 20 * (block / 5) + 2 * (block % 5);
            for (int cell : new int[] {corner, corner + 1, corner + 10, corner + 11}) {
                for (int f = 0; f < 2; f++) {
                    WinogradEngine engine = new State().allCells(-99).cell(cell, -98).weight(f, 4, 1).engine();
                    for (int other = 0; other < 25; other++) {
                        due("10: block " + other + " with cell " + cell, other == block ? -98 : -99, engine.pooled(f, other));
                    }
                }
            }
        }
    }

    // ---- Promise 11: apply

    /** "BAD for f outside 0..1." */
    private static void applyAtTheEndsOfF() {
        State zero = new State().cell(57, 6).weight(0, 4, 2).weight(1, 4, -2);
        after("11: apply(0)", zero, engine -> engine.apply(0), 0, new State().cell(57, 12).weight(0, 4, 2).weight(1, 4, -2));
        after("11: apply(1)", zero, engine -> engine.apply(1), 0, new State().cell(57, -12).weight(0, 4, 2).weight(1, 4, -2));
        refusedBeside("11: apply with f", 0, 1, BAD, (engine, f) -> engine.apply(f));
    }

    /** "cut to -99 or 99 where it is beyond; answers how many cells were cut": at every cell, just within and just beyond. */
    private static void applyCutsFrom100On() {
        int[][] sums = {{97, 98, 0}, {98, 99, 0}, {99, 99, 1}, {-97, -98, 0}, {-98, -99, 0}, {-99, -99, 1}};
        for (int f = 0; f < 2; f++) {
            int filter = f;
            for (int[] sum : sums) {
                int more = sum[0] > 0 ? 1 : -1;
                for (int cell = 0; cell < 90; cell++) {
                    State start = new State().cell(cell, sum[0]).cell(cell + 10, more).weight(f, 4, 1).weight(f, 7, 1);
                    State end = new State().cell(cell, sum[1]).cell(cell + 10, more).weight(f, 4, 1).weight(f, 7, 1);
                    if (cell >= 10) {
                        end.cell(cell - 10, sum[0]);
                    }
                    after("11: apply at cell " + cell + ", response " + (sum[0] + more), start,
                            engine -> engine.apply(filter), sum[2], end);
                }
            }
        }
    }

    /** "answers how many cells were cut": every number of them from none to all. */
    private static void applyCountsFromNoneToAll() {
        for (int f = 0; f < 2; f++) {
            int filter = f;
            State start = new State().weight(f, 4, 9);
            State end = new State().weight(f, 4, 9);
            after("11: none cut", start, engine -> engine.apply(filter), 0, end);
            for (int cell = 0; cell < 100; cell++) {
                int value = cell % 2 == 0 ? 12 : -12;
                start.cell(cell, value);
                end.cell(cell, cell % 2 == 0 ? 99 : -99);
                after("11: cells cut", start, engine -> engine.apply(filter), cell + 1, end);
            }
            State full = new State().allCells(-99).allWeights(f, 9);
            State cut = new State().allCells(-99).allWeights(f, 9);
            after("11: the farthest responses are cut", full, engine -> engine.apply(filter), 100, cut);
        }
    }

    /** "Makes every cell the response of a filter there": of the image as it was, whichever way the filter looks. */
    private static void applyTakesTheOldCells() {
        for (int k = 0; k < 18; k++) {
            int f = k / 9;
            int number = k % 9;
            State start = new State().weight(f, number, -1);
            State end = new State().weight(f, number, -1);
            for (int cell = 0; cell < 100; cell++) {
                start.cell(cell, cell);
                int x = cell % 10 + number % 3 - 1;
                int y = cell / 10 + number / 3 - 1;
                end.cell(cell, inside(x, y) ? -(10 * y + x) : 0);
            }
            after("11: apply with weight " + number, start, engine -> engine.apply(f), 0, end);
        }
    }

    // ---- Promise 12: turn

    /** "refused, answers false, for f outside 0..1. Else true." */
    private static void turnAtTheEndsOfF() {
        for (int f = 0; f < 2; f++) {
            int filter = f;
            State turned = marked();
            for (int number = 0; number < 9; number++) {
                turned.weight(f, number, marked().weights[9 * f + 8 - number]);
            }
            after("12: turn(" + f + ")", marked(), engine -> counted(engine.turn(filter)), YES, turned);
        }
        refusedBeside("12: turn with f", 0, 1, NO, (engine, f) -> counted(engine.turn(f)));
    }

    /** "weight number k and weight number 8 - k change places": each k alone, the middle one staying. */
    private static void turnMovesEachWeight() {
        for (int k = 0; k < 18; k++) {
            int f = k / 9;
            int number = k % 9;
            State one = new State().weight(f, number, 9);
            after("12: turn of weight " + number, one, engine -> counted(engine.turn(f)), YES, new State().weight(f, 8 - number, 9));
            after("12: two turns of weight " + number, one,
                    engine -> counted(engine.turn(f) && engine.turn(f)), YES, one);
        }
    }

    // ---- Promise 13: Order and limits

    /** "a call that is refused (by a code below 0 that is named, or by false) changes nothing": every mix of ends and wrong arguments. */
    private static void refusedInEveryMix() {
        int[] cells = {MIN, -1, 0, 99, 100, MAX};
        int[] values = {MIN, -100, -99, 99, 100, MAX};
        int[] filters = {MIN, -1, 0, 1, 2, MAX};
        int[] numbers = {MIN, -1, 0, 8, 9, MAX};
        int[] small = {MIN, -10, -9, 9, 10, MAX};
        int[] blocks = {MIN, -1, 0, 24, 25, MAX};
        for (int a = 0; a < 6; a++) {
            int one = a;
            for (int b = 0; b < 6; b++) {
                int two = b;
                if (taken(a) && taken(b)) {
                    continue;
                }
                refused("13: set", NO, engine -> counted(engine.set(cells[one], values[two])));
                refused("13: response", BAD, engine -> engine.response(filters[one], cells[two]));
                refused("13: pooled", BAD, engine -> engine.pooled(filters[one], blocks[two]));
            }
            for (int k = 0; k < 36; k++) {
                int two = k / 6;
                int three = k % 6;
                if (!taken(a) || !taken(two) || !taken(three)) {
                    refused("13: weight", NO, engine -> counted(engine.weight(filters[one], numbers[two], small[three])));
                }
            }
        }
    }

    /** The same for stripe, whose four arguments make the most mixes. */
    private static void stripeRefusedInEveryMix() {
        int[] lines = {MIN, -1, 0, 19, 20, MAX};
        int[] places = {MIN, -1, 0, 9, 10, MAX};
        int[] values = {MIN, -100, -99, 99, 100, MAX};
        for (int k = 0; k < 1296; k++) {
            int line = k / 216;
            int from = k / 36 % 6;
            int to = k / 6 % 6;
            int value = k % 6;
            if (!taken(line) || !taken(from) || !taken(to) || !taken(value)) {
                refused("13: stripe", BAD, engine -> engine.stripe(lines[line], places[from], places[to], values[value]));
            }
        }
    }

    /** The third and fourth value of each list above stand at the ends of the range, the others beside it. */
    private static boolean taken(int index) {
        return index == 2 || index == 3;
    }

    /** "changes nothing": neither does one refused call after another, of every kind, on one object. */
    private static void manyRefusedCallsChangeNothing() {
        refused("13: many refused calls", 0, engine -> {
            int kept = 0;
            for (int f : new int[] {-1, 2, MIN, MAX}) {
                kept += counted(engine.set(f < 0 ? f : 100, 5)) + counted(engine.set(5, f < 0 ? -100 : 100));
                kept += counted(engine.weight(f, 0, 0));
                kept += counted(engine.weight(0, f < 0 ? f : 9, 0)) + counted(engine.weight(1, 0, f < 0 ? -10 : 10));
                kept += counted(engine.turn(f));
                kept += engine.stripe(f < 0 ? f : 20, 0, 9, 5) == BAD ? 0 : 1;
                kept += engine.stripe(0, f < 0 ? f : 10, 9, 5) == BAD ? 0 : 1;
                kept += engine.stripe(0, 0, f < 0 ? f : 10, 5) == BAD ? 0 : 1;
                kept += engine.stripe(0, 0, 9, f < 0 ? -100 : 100) == BAD ? 0 : 1;
                kept += engine.response(f, 0) == BAD ? 0 : 1;
                kept += engine.second(f < 0 ? f : 100) == BAD ? 0 : 1;
                kept += engine.greatest(f) == BAD ? 0 : 1;
                kept += engine.where(f) == BAD ? 0 : 1;
                kept += engine.total(f) == BAD ? 0 : 1;
                kept += engine.pooled(f, 0) == BAD ? 0 : 1;
                kept += engine.apply(f) == BAD ? 0 : 1;
            }
            return kept;
        });
    }

    /** "public static final int BAD = -1000000000" */
    private static void badIsTheNamedCode() {
        due("the constant BAD", BAD, WinogradEngine.BAD);
    }

    public static void main(String[] args) {
        call512IsStillAnswered();
        changesUpToCall512AllCount();
        everyCellTakesEveryEndOfTheRange();
        numbersOfCellsAtTheEndsOfRows();
        besideTheImageIsZero();
        rowsAndColumnsDoNotWrapRound();
        everyWeightTakesEveryEndOfTheRange();
        everyWeightLooksAtItsOwnNeighbour();
        greatestAndLeastResponses();
        secondSeesZeroBeside();
        secondIsOfUncutResponses();
        newObjectIsEmpty();
        newObjectSharesNothing();
        setAtTheEndsOfCell();
        setAtTheEndsOfValue();
        setOverASetCell();
        stripeAtTheEndsOfLine();
        stripeAtTheEndsOfFrom();
        stripeAtTheEndsOfTo();
        stripeAtTheEndsOfValue();
        stripeCountsForEveryFromAndTo();
        emptyStripeIsStillRefused();
        stripeCountsCellsThatStayTheSame();
        weightAtTheEndsOfF();
        weightAtTheEndsOfNumber();
        weightAtTheEndsOfValue();
        responseAtTheEndsOfF();
        responseAtTheEndsOfCell();
        secondAtTheEndsOfCell();
        greatestAtTheEndsOfF();
        greatestAtTheEndsOfTheImage();
        greatestLeavesOutWhatIsBeside();
        whereAtTheEndsOfF();
        whereIsTheSmallestOfTwo();
        whereAtTheEndsOfTheImage();
        totalAtTheEndsOfF();
        totalCountsEveryCell();
        pooledAtTheEndsOfF();
        pooledAtTheEndsOfBlock();
        pooledHoldsItsFourCells();
        applyAtTheEndsOfF();
        applyCutsFrom100On();
        applyCountsFromNoneToAll();
        applyTakesTheOldCells();
        turnAtTheEndsOfF();
        turnMovesEachWeight();
        refusedInEveryMix();
        stripeRefusedInEveryMix();
        manyRefusedCallsChangeNothing();
        badIsTheNamedCode();
        System.out.println(wrong == 0 ? "all " + looked + " answers are as due" : wrong + " answers are not as due");
        if (wrong != 0) {
            System.exit(1);
        }
    }
}
