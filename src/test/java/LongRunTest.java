import java.util.Arrays;

/**
 * For each promise, runs of 512 calls on one object. The first 511 are aimed at the promise, each with its due answer;
 * what they leave behind is told in closed form and looked at by the 512th call. As nothing is promised after that
 * one, each run is played anew for every question there is, each time with another question at its end.
 */
public final class LongRunTest {
    private static final int BAD = -1000000000;
    private static final int NO = 0;
    private static final int YES = 1;
    private static final int LAST = 512;
    private static final int QUESTIONS = 356;
    private static final int REFUSED_KINDS = 16;

    private static int looked = 0;
    private static int wrong = 0;

    /** The first 511 calls on a new object, and all cells and weights that are due behind them. */
    private interface Script {
        void play(Run run);
    }

    private static final class Run {
        final String name;
        final WinogradEngine engine = new WinogradEngine();
        final int[] cells = new int[100];
        final int[] weights = new int[18];
        int made = 0;

        Run(String name) {
            this.name = name;
        }

        void due(int want, int got) {
            made++;
            looked++;
            if (got != want) {
                wrong++;
                if (wrong <= 50) {
                    System.out.println(name + ": call " + made + " answered " + got + ", due is " + want);
                }
            }
        }

        void due(int want, boolean got) {
            due(want, got ? YES : NO);
        }

        /** No two cells and no two weights of a filter are the same here: 118 calls. */
        void mark() {
            markCells();
            markWeights();
        }

        void markCells() {
            for (int cell = 0; cell < 100; cell++) {
                cells[cell] = (73 * cell + 1) % 199 - 99;
                due(YES, engine.set(cell, cells[cell]));
            }
        }

        void markWeights() {
            for (int k = 0; k < 18; k++) {
                weights[k] = (7 * k + 16) % 19 - 9;
                due(YES, engine.weight(k / 9, k % 9, weights[k]));
            }
        }

        void oneWeight(int f, int number, int value) {
            weights[9 * f + number] = value;
            due(YES, engine.weight(f, number, value));
        }

        void ask(int question) {
            due(answer(question), asked(question));
        }

        int asked(int question) {
            if (question < 200) {
                return engine.response(question / 100, question % 100);
            }
            if (question < 300) {
                return engine.second(question - 200);
            }
            if (question < 350) {
                return engine.pooled((question - 300) / 25, question % 25);
            }
            switch (question) {
                case 350: return engine.greatest(0);
                case 351: return engine.greatest(1);
                case 352: return engine.where(0);
                case 353: return engine.where(1);
                case 354: return engine.total(0);
                default: return engine.total(1);
            }
        }

        /** What the document's sums give for the cells and weights that are due. */
        int answer(int question) {
            if (question < 200) {
                return responseTo(cells, question / 100, question % 100);
            }
            if (question < 300) {
                return responseTo(responses(0), 1, question - 200);
            }
            if (question < 350) {
                int corner = 20 * (question % 25 / 5) + 2 * (question % 5);
                int[] four = {corner, corner + 1, corner + 10, corner + 11};
                return Arrays.stream(four).map(cell -> responseTo(cells, (question - 300) / 25, cell)).max().getAsInt();
            }
            int[] all = responses(question % 2);
            int best = Arrays.stream(all).max().getAsInt();
            switch (question) {
                case 350: case 351: return best;
                case 352: case 353: return Arrays.stream(all).boxed().toList().indexOf(best);
                default: return Arrays.stream(all).sum();
            }
        }

        private int[] responses(int f) {
            int[] all = new int[100];
            Arrays.setAll(all, cell -> responseTo(cells, f, cell));
            return all;
        }

        private int responseTo(int[] image, int f, int cell) {
            int sum = 0;
            for (int j = 0; j < 3; j++) {
                for (int i = 0; i < 3; i++) {
                    int x = cell % 10 + i - 1;
                    int y = cell / 10 + j - 1;
                    if (x >= 0 && x <= 9 && y >= 0 && y <= 9) {
                        sum += weights[9 * f + 3 * j + i] * image[10 * y + x];
                    }
                }
            }
            return sum;
        }
    }

    /** Plays the run once for every question, which is then its 512th call. */
    private static void whole(String name, Script script) {
        for (int question = 0; question < QUESTIONS; question++) {
            Run run = new Run(name);
            script.play(run);
            run.ask(question);
            if (run.made != LAST) {
                wrong++;
                System.out.println(name + ": the test itself makes " + run.made + " calls, not " + LAST);
                return;
            }
        }
    }

    private static int value(int k) {
        return 31 * k % 199 - 99;
    }

    /** The last of the numbers below count that leaves this rest. */
    private static int lastWith(int rest, int by, int count) {
        return rest + (count - 1 - rest) / by * by;
    }

    // ---- Promise 1

    /** "All cells and weights are 0": of objects made all along the life of another one, which they leave alone. */
    private static void newObjects(Run run) {
        run.mark();
        for (int question = 0; run.made < LAST - 1; question++) {
            WinogradEngine fresh = new WinogradEngine();
            int f = question % 2;
            // A response above 0 shows for one sign or the other if any weight or any cell isn't 0.
            for (int sign = -1; sign <= 1; sign += 2) {
                fresh.set(44, sign);
                alike(run.name + ": a weight of a new object", 0, fresh.greatest(f));
            }
            fresh.set(44, 0);
            for (int sign = -1; sign <= 1; sign += 2) {
                fresh.weight(f, 4, sign);
                alike(run.name + ": a cell of a new object", 0, fresh.greatest(f));
            }
            run.ask(question % QUESTIONS);
        }
    }

    private static void alike(String what, int want, int got) {
        looked++;
        if (got != want) {
            wrong++;
            System.out.println(what + " answered " + got + ", due is " + want);
        }
    }

    // ---- Promise 2

    /** "Sets a cell.": every cell again and again; the last value stays. */
    private static void sets(Run run) {
        run.markWeights();
        for (int k = 0; k < 493; k++) {
            run.due(YES, run.engine.set(k % 100, value(k)));
        }
        for (int cell = 0; cell < 100; cell++) {
            run.cells[cell] = value(lastWith(cell, 100, 493));
        }
    }

    /** "refused, answers false. Else true.": good and refused calls by turns. */
    private static void setsAndRefusedSets(Run run) {
        run.markWeights();
        for (int k = 0; k < 493; k++) {
            switch (k % 3) {
                case 0: run.due(YES, run.engine.set(k / 3 % 100, value(k))); break;
                case 1: run.due(NO, run.engine.set(k % 2 == 0 ? -1 - k : 100 + k, 5)); break;
                default: run.due(NO, run.engine.set(k % 100, k % 2 == 0 ? -100 - k : 100 + k)); break;
            }
        }
        for (int cell = 0; cell < 100; cell++) {
            run.cells[cell] = value(3 * lastWith(cell, 100, 165));
        }
    }

    // ---- Promise 3

    /** "Sets the cells of row number line ..., or of column number line - 10": whole lines; the later one lies above. */
    private static void wholeStripes(Run run) {
        run.markWeights();
        for (int k = 0; k < 493; k++) {
            run.due(10, run.engine.stripe(k % 20, 0, 9, value(k)));
        }
        for (int cell = 0; cell < 100; cell++) {
            int row = lastWith(cell / 10, 20, 493);
            int column = lastWith(10 + cell % 10, 20, 493);
            run.cells[cell] = value(Math.max(row, column));
        }
    }

    /** "from place from to place to", "answers how many cells were set (0 if from is above to)", and refused ones. */
    private static void stripesInParts(Run run) {
        run.markWeights();
        for (int k = 0; k < 493; k++) {
            int j = k / 3;
            switch (k % 3) {
                case 0: run.due(10 - j / 10 % 10, run.engine.stripe(j % 10, j / 10 % 10, 9, value(j))); break;
                case 1: run.due(0, run.engine.stripe(j % 20, 1 + j % 9, j % 9, 5)); break;
                default: run.due(BAD, refusedStripe(run.engine, j)); break;
            }
        }
        for (int cell = 0; cell < 100; cell++) {
            for (int j = cell / 10; j < 165; j += 10) {
                if (j / 10 % 10 <= cell % 10) {
                    run.cells[cell] = value(j);
                }
            }
        }
    }

    private static int refusedStripe(WinogradEngine engine, int k) {
        switch (k % 8) {
            case 0: return engine.stripe(-1 - k, 0, 9, 5);
            case 1: return engine.stripe(20 + k, 0, 9, 5);
            case 2: return engine.stripe(k % 20, -1 - k, 9, 5);
            case 3: return engine.stripe(k % 20, 10 + k, 9, 5);
            case 4: return engine.stripe(k % 20, 0, -1 - k, 5);
            case 5: return engine.stripe(k % 20, 0, 10 + k, 5);
            case 6: return engine.stripe(k % 20, 0, 9, -100 - k);
            default: return engine.stripe(k % 20, 0, 9, 100 + k);
        }
    }

    /** The same in columns, each from its top. */
    private static void columnsInParts(Run run) {
        run.markWeights();
        for (int k = 0; k < 493; k++) {
            run.due(k / 10 % 10 + 1, run.engine.stripe(10 + k % 10, 0, k / 10 % 10, value(k)));
        }
        for (int cell = 0; cell < 100; cell++) {
            for (int k = cell % 10; k < 493; k += 10) {
                if (k / 10 % 10 >= cell / 10) {
                    run.cells[cell] = value(k);
                }
            }
        }
    }

    // ---- Promise 4

    /** "Sets a weight.": every weight of both filters again and again; the last value stays. */
    private static void weights(Run run) {
        run.markCells();
        for (int k = 0; k < 411; k++) {
            run.due(YES, run.engine.weight(k % 18 / 9, k % 9, 5 * k % 19 - 9));
        }
        for (int k = 0; k < 18; k++) {
            run.weights[k] = 5 * lastWith(k, 18, 411) % 19 - 9;
        }
    }

    /** "refused, answers false. Else true.": good and refused calls by turns. */
    private static void weightsAndRefusedWeights(Run run) {
        run.markCells();
        for (int k = 0; k < 411; k++) {
            int j = k / 4;
            switch (k % 4) {
                case 0: run.due(YES, run.engine.weight(j % 18 / 9, j % 9, 5 * j % 19 - 9)); break;
                case 1: run.due(NO, run.engine.weight(j % 2 == 0 ? -1 - j : 2 + j, j % 9, 0)); break;
                case 2: run.due(NO, run.engine.weight(j % 2, j % 3 == 0 ? -1 - j : 9 + j, 0)); break;
                default: run.due(NO, run.engine.weight(j % 2, j % 9, j % 3 == 0 ? -10 - j : 10 + j)); break;
            }
        }
        for (int k = 0; k < 18; k++) {
            run.weights[k] = 5 * lastWith(k, 18, 103) % 19 - 9;
        }
    }

    // ---- Promises 5 to 10: what asks

    /** Every question there is on one object, some twice: each answer is due, and none changes anything. */
    private static void questionsAlone(Run run) {
        run.mark();
        for (int k = 0; k < 393; k++) {
            run.ask(k % QUESTIONS);
        }
    }

    /** The questions of one kind over and over: none leans on what an earlier one left behind. */
    private static void oneKindAlone(Run run, int first, int count) {
        run.mark();
        for (int k = 0; k < 393; k++) {
            run.ask(first + 7 * k % count);
        }
    }

    /** The questions of one kind, each after a change of a cell, a weight or a line, or after a turn. */
    private static void oneKindAfterChanges(Run run, int first, int count) {
        run.mark();
        for (int k = 0; run.made < LAST - 1; k++) {
            change(run, k);
            if (run.made < LAST - 1) {
                run.ask(first + 7 * k % count);
            }
        }
    }

    private static void change(Run run, int k) {
        switch (k % 4) {
            case 0:
                run.cells[37 * k % 100] = value(k);
                run.due(YES, run.engine.set(37 * k % 100, value(k)));
                break;
            case 1:
                run.oneWeight(k / 4 % 2, k / 8 % 9, 5 * k % 19 - 9);
                break;
            case 2:
                for (int y = 2; y <= 6; y++) {
                    run.cells[10 * y + k % 10] = value(k);
                }
                run.due(5, run.engine.stripe(10 + k % 10, 2, 6, value(k)));
                break;
            default:
                turned(run.weights, k / 4 % 2);
                run.due(YES, run.engine.turn(k / 4 % 2));
                break;
        }
    }

    private static void turned(int[] weights, int f) {
        int[] old = weights.clone();
        for (int k = 0; k < 9; k++) {
            weights[9 * f + k] = old[9 * f + 8 - k];
        }
    }

    /** "The greatest response of a filter at a cell", "The smallest cell with" it: one peak wanders over the image. */
    private static void wanderingPeak(Run run, int f, int sign) {
        run.oneWeight(f, 4, sign);
        for (int k = 0; k < 127; k++) {
            int cell = 37 * k % 100;
            run.due(YES, run.engine.set(cell, 60 * sign));
            run.due(60, run.engine.greatest(f));
            run.due(cell, run.engine.where(f));
            run.due(YES, run.engine.set(cell, 0));
        }
        run.due(YES, run.engine.set(83, 60 * sign));
        run.due(83, run.engine.where(f));
        run.cells[83] = 60 * sign;
    }

    /** "The smallest cell with the greatest response": all share it, then ever fewer, then ever more from behind. */
    private static void sharedPeaks(Run run, int f) {
        run.oneWeight(f, 4, 1);
        for (int line = 0; line < 10; line++) {
            run.due(10, run.engine.stripe(line, 0, 9, 99));
        }
        for (int cell = 0; cell < 100; cell++) {
            run.due(YES, run.engine.set(cell, -99));
            run.due(cell < 99 ? 99 : -99, run.engine.greatest(f));
            run.due(cell < 99 ? cell + 1 : 0, run.engine.where(f));
        }
        for (int cell = 99; cell >= 0; cell--) {
            run.due(YES, run.engine.set(cell, 99));
            run.due(cell, run.engine.where(f));
        }
        Arrays.fill(run.cells, 99);
    }

    /** "The sum of the responses of a filter at all cells": each set moves it by the weights that look at the cell. */
    private static void growingTotal(Run run, int f) {
        for (int number = 0; number < 9; number++) {
            run.oneWeight(f, number, number + 1);
        }
        int total = 0;
        for (int k = 0; k < 251; k++) {
            int cell = 37 * k % 100;
            total += (value(k) - run.cells[cell]) * weightsThatSee(cell);
            run.cells[cell] = value(k);
            run.due(YES, run.engine.set(cell, value(k)));
            run.due(total, run.engine.total(f));
        }
    }

    /** Of the weights 1 to 9: weight (i, j) looks at (x, y) from (x + 1 - i, y + 1 - j), if that is in the image. */
    private static int weightsThatSee(int cell) {
        int sum = 0;
        for (int number = 0; number < 9; number++) {
            int x = cell % 10 + 1 - number % 3;
            int y = cell / 10 + 1 - number / 3;
            sum += x >= 0 && x <= 9 && y >= 0 && y <= 9 ? number + 1 : 0;
        }
        return sum;
    }

    /** "Of every two by two cells ... the greatest response": each cell of a block leads in its turn. */
    private static void leadsInBlocks(Run run, int f) {
        run.oneWeight(f, 4, 1);
        for (int k = 0; k < 255; k++) {
            int cell = 37 * k % 100;
            int height = k / 100 * 30 + 1 + k % 4;
            run.due(YES, run.engine.set(cell, height));
            run.cells[cell] = height;
            int block = 5 * (cell / 20) + cell % 10 / 2;
            run.due(run.answer(300 + 25 * f + block), run.engine.pooled(f, block));
        }
    }

    // ---- Promise 11

    /** "Makes every cell the response of a filter there": a new column comes in at the left and all move right. */
    private static void movingColumns(Run run) {
        run.oneWeight(0, 3, 1);
        for (int k = 0; k < 255; k++) {
            run.due(10, run.engine.stripe(10, 0, 9, value(k)));
            run.due(0, run.engine.apply(0));
        }
        for (int cell = 0; cell < 100; cell++) {
            run.cells[cell] = cell % 10 == 0 ? 0 : value(255 - cell % 10);
        }
    }

    /** The same upwards, with the other filter. */
    private static void movingRows(Run run) {
        run.oneWeight(1, 7, 1);
        for (int k = 0; k < 255; k++) {
            run.due(10, run.engine.stripe(9, 0, 9, value(k)));
            run.due(0, run.engine.apply(1));
        }
        for (int cell = 0; cell < 100; cell++) {
            run.cells[cell] = cell / 10 == 9 ? 0 : value(246 + cell / 10);
        }
    }

    /** "cut to -99 or 99 where it is beyond; answers how many cells were cut": 7, 14, 28, 56, then 112 is cut. */
    private static void doubledAndCut(Run run, int f) {
        run.oneWeight(f, 4, 2);
        for (int k = 0; k < 255; k++) {
            run.due(YES, run.engine.set(k % 100, k % 2 == 0 ? 7 : -7));
            run.due(Math.max(0, Math.min(k + 1, 100) - 3), run.engine.apply(f));
        }
        for (int cell = 0; cell < 100; cell++) {
            int applies = 255 - lastWith(cell, 100, 255);
            int height = applies > 3 ? 99 : 7 << applies;
            run.cells[cell] = cell % 2 == 0 ? height : -height;
        }
    }

    /** Every cell cut by every apply, from one end to the other. */
    private static void allCutEachTime(Run run, int f) {
        for (int number = 0; number < 9; number++) {
            run.oneWeight(f, number, -9);
        }
        for (int line = 0; line < 10; line++) {
            run.due(10, run.engine.stripe(line, 0, 9, 99));
        }
        for (int k = 0; k < 491; k++) {
            run.due(100, run.engine.apply(f));
        }
        run.due(BAD, run.engine.apply(2));
        Arrays.fill(run.cells, -99);
    }

    // ---- Promise 12

    /** "weight number k and weight number 8 - k change places": filter 0 an odd number of times, filter 1 an even one. */
    private static void turns(Run run) {
        run.mark();
        for (int k = 0; k < 393; k++) {
            run.due(YES, run.engine.turn(k % 3 == 0 ? 0 : 1));
        }
        turned(run.weights, 0);
    }

    /** "refused, answers false, for f outside 0..1. Else true.": by turns. */
    private static void turnsAndRefusedTurns(Run run) {
        run.mark();
        for (int k = 0; k < 393; k++) {
            switch (k % 3) {
                case 0: run.due(NO, run.engine.turn(-1 - k)); break;
                case 1: run.due(YES, run.engine.turn(1)); break;
                default: run.due(NO, run.engine.turn(2 + k)); break;
            }
        }
        turned(run.weights, 1);
    }

    // ---- Promise 13

    /** "a call that is refused ... changes nothing": 393 of them; with every shift each kind stands at every place. */
    private static void refusedCalls(Run run, int shift) {
        run.mark();
        for (int k = 0; k < 393; k++) {
            refused(run, (k + shift) % REFUSED_KINDS, k);
        }
    }

    /** The same from an object's first call on, while all is still 0. */
    private static void refusedFromTheStart(int shift) {
        Run cells = new Run("13, refused from the start, then the cells");
        Run weights = new Run("13, refused from the start, then the weights");
        for (int k = 0; k < 400; k++) {
            refused(cells, (k + shift) % REFUSED_KINDS, k);
            refused(weights, (k + shift) % REFUSED_KINDS, k);
        }
        cells.oneWeight(shift % 2, 4, 1);
        for (int cell = 0; cell < 100; cell++) {
            cells.due(0, cells.engine.response(shift % 2, cell));
        }
        weights.due(YES, weights.engine.set(44, 1));
        for (int cell : new int[] {33, 34, 35, 43, 44, 45, 53, 54, 55}) {
            weights.due(0, weights.engine.response(0, cell));
            weights.due(0, weights.engine.response(1, cell));
        }
    }

    private static void refused(Run run, int kind, int k) {
        boolean below = k / REFUSED_KINDS % 2 == 0;
        int beside = below ? -1 - k : 100 + k;
        switch (kind) {
            case 0: run.due(NO, run.engine.set(beside, 5)); break;
            case 1: run.due(NO, run.engine.set(k % 100, below ? -100 - k : 100 + k)); break;
            case 2: run.due(NO, run.engine.weight(beside, k % 9, 1)); break;
            case 3: run.due(NO, run.engine.weight(k % 2, beside, 1)); break;
            case 4: run.due(NO, run.engine.weight(k % 2, k % 9, below ? -10 - k : 10 + k)); break;
            case 5: run.due(NO, run.engine.turn(beside)); break;
            case 6: run.due(BAD, run.engine.response(beside, k % 100)); break;
            case 7: run.due(BAD, run.engine.response(k % 2, beside)); break;
            case 8: run.due(BAD, run.engine.second(beside)); break;
            case 9: run.due(BAD, run.engine.greatest(beside)); break;
            case 10: run.due(BAD, run.engine.where(beside)); break;
            case 11: run.due(BAD, run.engine.total(beside)); break;
            case 12: run.due(BAD, run.engine.pooled(beside, k % 25)); break;
            case 13: run.due(BAD, run.engine.pooled(k % 2, beside)); break;
            case 14: run.due(BAD, run.engine.apply(beside)); break;
            default: run.due(BAD, refusedStripe(run.engine, k / REFUSED_KINDS)); break;
        }
    }

    private static void playQuestions() {
        // Where the questions of each kind begin, and how many of them there are.
        int[][] kinds = {{0, 200}, {200, 100}, {300, 50}, {350, 2}, {352, 2}, {354, 2}};
        String[] names = {"5 response", "6 second", "10 pooled", "7 greatest", "8 where", "9 total"};
        for (int k = 0; k < kinds.length; k++) {
            int first = kinds[k][0];
            int count = kinds[k][1];
            whole(names[k] + " alone", run -> oneKindAlone(run, first, count));
            whole(names[k] + " after changes", run -> oneKindAfterChanges(run, first, count));
        }
        whole("5 to 10, questions alone", LongRunTest::questionsAlone);
        whole("5 to 10, questions after changes", run -> oneKindAfterChanges(run, 0, QUESTIONS));
    }

    private static void playWithEachFilter(int f) {
        whole("7 and 8, wandering peak", run -> wanderingPeak(run, f, 1));
        whole("7 and 8, wandering pit", run -> wanderingPeak(run, f, -1));
        whole("8, shared peaks", run -> sharedPeaks(run, f));
        whole("9, growing total", run -> growingTotal(run, f));
        whole("10, leads in blocks", run -> leadsInBlocks(run, f));
        whole("11, doubled and cut", run -> doubledAndCut(run, f));
        whole("11, all cut each time", run -> allCutEachTime(run, f));
    }

    public static void main(String[] args) {
        whole("1, new objects", LongRunTest::newObjects);
        whole("2, sets", LongRunTest::sets);
        whole("2, sets and refused sets", LongRunTest::setsAndRefusedSets);
        whole("3, whole stripes", LongRunTest::wholeStripes);
        whole("3, stripes in parts", LongRunTest::stripesInParts);
        whole("3, columns in parts", LongRunTest::columnsInParts);
        whole("4, weights", LongRunTest::weights);
        whole("4, weights and refused weights", LongRunTest::weightsAndRefusedWeights);
        playQuestions();
        playWithEachFilter(0);
        playWithEachFilter(1);
        whole("11, moving columns", LongRunTest::movingColumns);
        whole("11, moving rows", LongRunTest::movingRows);
        whole("12, turns", LongRunTest::turns);
        whole("12, turns and refused turns", LongRunTest::turnsAndRefusedTurns);
        for (int k = 0; k < REFUSED_KINDS; k++) {
            int shift = k;
            whole("13, refused calls", run -> refusedCalls(run, shift));
            refusedFromTheStart(shift);
        }
        System.out.println(wrong == 0 ? "all " + looked + " answers are as due" : wrong + " answers are not as due");
        if (wrong != 0) {
            System.exit(1);
        }
    }
}
