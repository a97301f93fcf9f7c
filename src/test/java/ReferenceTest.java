/**
 * Long mixed runs, each answer compared with the document's own sums, written out here without any shortcut.
 * The numbers come from a fixed seed, so that every run of the test makes the same calls.
 */
public final class ReferenceTest {
    private static final int BAD = -1000000000;
    private static final int RUNS = 400;
    private static final int CALLS = 512;
    private static final int[][] REACHES = {{99, 9}, {1, 1}, {20, 2}, {99, 1}};

    private static long seed = 20261115L;
    private static int wrong = 0;

    private final int[][] image = new int[10][10];
    private final int[][][] filters = new int[2][3][3];

    private static int upTo(int count) {
        seed = seed * 6364136223846793005L + 1442695040888963407L;
        return (int) ((seed >>> 33) % count);
    }

    /** Mostly from low to high, now and then just beside or far beside. */
    private static int near(int low, int high) {
        switch (upTo(40)) {
            case 0: return low - 1;
            case 1: return high + 1;
            case 2: return upTo(2) == 0 ? Integer.MIN_VALUE : Integer.MAX_VALUE;
            case 3: return low;
            case 4: return high;
            default: return low + upTo(high - low + 1);
        }
    }

    /** From -reach to reach, now and then at the ends of the whole range or beside it. */
    private static int drawn(int reach, int limit) {
        return upTo(10) == 0 ? near(-limit, limit) : upTo(2 * reach + 1) - reach;
    }

    private static boolean within(int value, int low, int high) {
        return value >= low && value <= high;
    }

    private static int at(int[][] cells, int x, int y) {
        return within(x, 0, 9) && within(y, 0, 9) ? cells[y][x] : 0;
    }

    private int[][] responses(int f, int[][] source) {
        int[][] result = new int[10][10];
        for (int y = 0; y < 10; y++) {
            for (int x = 0; x < 10; x++) {
                for (int j = 0; j < 3; j++) {
                    for (int i = 0; i < 3; i++) {
                        result[y][x] += filters[f][j][i] * at(source, x + i - 1, y + j - 1);
                    }
                }
            }
        }
        return result;
    }

    private int set(int cell, int value) {
        if (!within(cell, 0, 99) || !within(value, -99, 99)) {
            return 0;
        }
        image[cell / 10][cell % 10] = value;
        return 1;
    }

    private int stripe(int line, int from, int to, int value) {
        if (!within(line, 0, 19) || !within(from, 0, 9) || !within(to, 0, 9) || !within(value, -99, 99)) {
            return BAD;
        }
        int count = 0;
        for (int place = from; place <= to; place++) {
            if (line < 10) {
                image[line][place] = value;
            } else {
                image[place][line - 10] = value;
            }
            count++;
        }
        return count;
    }

    private int weight(int f, int number, int value) {
        if (!within(f, 0, 1) || !within(number, 0, 8) || !within(value, -9, 9)) {
            return 0;
        }
        filters[f][number / 3][number % 3] = value;
        return 1;
    }

    private int response(int f, int cell) {
        return within(f, 0, 1) && within(cell, 0, 99) ? responses(f, image)[cell / 10][cell % 10] : BAD;
    }

    private int second(int cell) {
        return within(cell, 0, 99) ? responses(1, responses(0, image))[cell / 10][cell % 10] : BAD;
    }

    private int greatest(int f) {
        if (!within(f, 0, 1)) {
            return BAD;
        }
        int best = Integer.MIN_VALUE;
        for (int[] row : responses(f, image)) {
            for (int value : row) {
                best = Math.max(best, value);
            }
        }
        return best;
    }

    private int where(int f) {
        if (!within(f, 0, 1)) {
            return BAD;
        }
        int best = greatest(f);
        int cell = 0;
        while (response(f, cell) != best) {
            cell++;
        }
        return cell;
    }

    private int total(int f) {
        if (!within(f, 0, 1)) {
            return BAD;
        }
        int sum = 0;
        for (int[] row : responses(f, image)) {
            for (int value : row) {
                sum += value;
            }
        }
        return sum;
    }

    private int pooled(int f, int block) {
        if (!within(f, 0, 1) || !within(block, 0, 24)) {
            return BAD;
        }
        int[][] all = responses(f, image);
        int x = 2 * (block % 5);
        int y = 2 * (block / 5);
        return Math.max(Math.max(all[y][x], all[y][x + 1]), Math.max(all[y + 1][x], all[y + 1][x + 1]));
    }

    private int apply(int f) {
        if (!within(f, 0, 1)) {
            return BAD;
        }
        int[][] all = responses(f, image);
        int cuts = 0;
        for (int y = 0; y < 10; y++) {
            for (int x = 0; x < 10; x++) {
                image[y][x] = Math.max(-99, Math.min(99, all[y][x]));
                cuts += image[y][x] == all[y][x] ? 0 : 1;
            }
        }
        return cuts;
    }

    private int turn(int f) {
        if (!within(f, 0, 1)) {
            return 0;
        }
        int[][] turned = new int[3][3];
        for (int k = 0; k < 9; k++) {
            turned[k / 3][k % 3] = filters[f][(8 - k) / 3][(8 - k) % 3];
        }
        filters[f] = turned;
        return 1;
    }

    private static void due(String call, int want, int got) {
        if (got != want) {
            wrong++;
            if (wrong <= 50) {
                System.out.println(call + " answered " + got + ", due is " + want);
            }
        }
    }

    private static int number(boolean answer) {
        return answer ? 1 : 0;
    }

    /** A reach as wide as the range, or a small one, with which cells often share a response and few are cut. */
    private void step(String head, WinogradEngine engine, int kind, int cellReach, int weightReach) {
        int f = near(0, 1);
        int cell = near(0, 99);
        int value = drawn(cellReach, 99);
        int a = near(0, 8);
        int small = drawn(weightReach, 9);
        int line = near(0, 19);
        int from = near(0, 9);
        int to = near(0, 9);
        int block = near(0, 24);
        switch (kind) {
            case 0: due(head + "set(" + cell + ", " + value + ")", set(cell, value), number(engine.set(cell, value))); break;
            case 1: due(head + "stripe(" + line + ", " + from + ", " + to + ", " + value + ")",
                    stripe(line, from, to, value), engine.stripe(line, from, to, value)); break;
            case 2: due(head + "weight(" + f + ", " + a + ", " + small + ")", weight(f, a, small), number(engine.weight(f, a, small))); break;
            case 3: due(head + "response(" + f + ", " + cell + ")", response(f, cell), engine.response(f, cell)); break;
            case 4: due(head + "second(" + cell + ")", second(cell), engine.second(cell)); break;
            case 5: due(head + "greatest(" + f + ")", greatest(f), engine.greatest(f)); break;
            case 6: due(head + "where(" + f + ")", where(f), engine.where(f)); break;
            case 7: due(head + "total(" + f + ")", total(f), engine.total(f)); break;
            case 8: due(head + "pooled(" + f + ", " + block + ")", pooled(f, block), engine.pooled(f, block)); break;
            case 9: due(head + "apply(" + f + ")", apply(f), engine.apply(f)); break;
            default: due(head + "turn(" + f + ")", turn(f), number(engine.turn(f))); break;
        }
    }

    private static void mixedRun(int run) {
        WinogradEngine engine = new WinogradEngine();
        ReferenceTest reference = new ReferenceTest();
        int cellReach = REACHES[run % 4][0];
        int weightReach = REACHES[run % 4][1];
        for (int call = 1; call <= CALLS; call++) {
            int kind = upTo(11);
            // With great weights an apply soon makes the image flat, so it comes seldom, and sets take its place.
            if (kind == 9 && upTo(weightReach + 1) != 0) {
                kind = upTo(3);
            }
            reference.step("run " + run + ", call " + call + ": ", engine, kind, cellReach, weightReach);
        }
    }

    /** Every response and second response of an image and two filters drawn from small sets of values. */
    private static void wholeImage(int run) {
        WinogradEngine engine = new WinogradEngine();
        ReferenceTest reference = new ReferenceTest();
        boolean extreme = upTo(2) == 0;
        for (int cell = 0; cell < 100; cell++) {
            int value = extreme ? 99 * (upTo(3) - 1) : upTo(199) - 99;
            due("image " + run + ": set", reference.set(cell, value), number(engine.set(cell, value)));
        }
        for (int k = 0; k < 18; k++) {
            int value = extreme ? 9 * (upTo(3) - 1) : upTo(19) - 9;
            due("image " + run + ": weight", reference.weight(k / 9, k % 9, value), number(engine.weight(k / 9, k % 9, value)));
        }
        for (int cell = 0; cell < 100; cell++) {
            due("image " + run + ": second(" + cell + ")", reference.second(cell), engine.second(cell));
        }
        for (int f = 0; f < 2; f++) {
            for (int block = 0; block < 25; block++) {
                due("image " + run + ": pooled(" + f + ", " + block + ")", reference.pooled(f, block), engine.pooled(f, block));
            }
            due("image " + run + ": greatest(" + f + ")", reference.greatest(f), engine.greatest(f));
            due("image " + run + ": where(" + f + ")", reference.where(f), engine.where(f));
            due("image " + run + ": total(" + f + ")", reference.total(f), engine.total(f));
        }
        int f = upTo(2);
        due("image " + run + ": apply(" + f + ")", reference.apply(f), engine.apply(f));
        for (int cell = 0; cell < 100; cell++) {
            due("image " + run + ": response(" + f + ", " + cell + ")", reference.response(f, cell), engine.response(f, cell));
        }
    }

    public static void main(String[] args) {
        for (int run = 0; run < RUNS; run++) {
            mixedRun(run);
            wholeImage(run);
        }
        System.out.println(wrong == 0 ? "all answers are as due" : wrong + " answers are not as due");
        if (wrong != 0) {
            System.exit(1);
        }
    }
}
