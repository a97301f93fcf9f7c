public final class WinogradEngine {
    public static final int BAD = -1000000000;

    private static final int SIDE = 10;
    private static final int CELLS = 100;
    private static final int BLOCKS_ACROSS = 5;
    private static final int BLOCKS = 25;
    private static final int FILTERS = 2;
    private static final int WEIGHTS = 9;
    private static final int CELL_LIMIT = 99;
    private static final int WEIGHT_LIMIT = 9;

    private final int[] cells = new int[CELLS];
    private final int[] weights = new int[FILTERS * WEIGHTS];
    private final int[] responses = new int[CELLS];

    public WinogradEngine() {
    }

    public boolean set(int cell, int value) {
        if (!isCell(cell) || !isCellValue(value)) {
            return false;
        }
        cells[cell] = value;
        return true;
    }

    public int stripe(int line, int from, int to, int value) {
        if (line < 0 || line >= 2 * SIDE || !isPlace(from) || !isPlace(to) || !isCellValue(value)) {
            return BAD;
        }
        boolean isRow = line < SIDE;
        int first = isRow ? SIDE * line : line - SIDE;
        int step = isRow ? 1 : SIDE;
        int count = 0;
        for (int place = from; place <= to; place++) {
            cells[first + step * place] = value;
            count++;
        }
        return count;
    }

    public boolean weight(int f, int number, int value) {
        if (!isFilter(f) || number < 0 || number >= WEIGHTS || value < -WEIGHT_LIMIT || value > WEIGHT_LIMIT) {
            return false;
        }
        weights[WEIGHTS * f + number] = value;
        return true;
    }

    public int response(int f, int cell) {
        if (!isFilter(f) || !isCell(cell)) {
            return BAD;
        }
        return weightedSum(f, cells, cell);
    }

    public int second(int cell) {
        if (!isCell(cell)) {
            return BAD;
        }
        workOutResponses(0);
        return weightedSum(1, responses, cell);
    }

    public int greatest(int f) {
        if (!isFilter(f)) {
            return BAD;
        }
        workOutResponses(f);
        int best = firstGreatestCell();
        return responses[best];
    }

    public int where(int f) {
        if (!isFilter(f)) {
            return BAD;
        }
        workOutResponses(f);
        return firstGreatestCell();
    }

    public int total(int f) {
        if (!isFilter(f)) {
            return BAD;
        }
        workOutResponses(f);
        int sum = 0;
        for (int cell = 0; cell < CELLS; cell++) {
            sum += responses[cell];
        }
        return sum;
    }

    public int pooled(int f, int block) {
        if (!isFilter(f) || block < 0 || block >= BLOCKS) {
            return BAD;
        }
        workOutResponses(f);
        int corner = 2 * SIDE * (block / BLOCKS_ACROSS) + 2 * (block % BLOCKS_ACROSS);
        int upper = greater(responses[corner], responses[corner + 1]);
        int lower = greater(responses[corner + SIDE], responses[corner + SIDE + 1]);
        return greater(upper, lower);
    }

    public int apply(int f) {
        if (!isFilter(f)) {
            return BAD;
        }
        workOutResponses(f);
        int cuts = 0;
        for (int cell = 0; cell < CELLS; cell++) {
            int value = responses[cell];
            if (isCellValue(value)) {
                cells[cell] = value;
            } else {
                cells[cell] = value < 0 ? -CELL_LIMIT : CELL_LIMIT;
                cuts++;
            }
        }
        return cuts;
    }

    public boolean turn(int f) {
        if (!isFilter(f)) {
            return false;
        }
        int low = WEIGHTS * f;
        int high = low + WEIGHTS - 1;
        for (int k = 0; k < WEIGHTS / 2; k++) {
            int kept = weights[low + k];
            weights[low + k] = weights[high - k];
            weights[high - k] = kept;
        }
        return true;
    }

    private static boolean isCell(int cell) {
        return cell >= 0 && cell < CELLS;
    }

    private static boolean isPlace(int place) {
        return place >= 0 && place < SIDE;
    }

    private static boolean isCellValue(int value) {
        return value >= -CELL_LIMIT && value <= CELL_LIMIT;
    }

    private static boolean isFilter(int f) {
        return f >= 0 && f < FILTERS;
    }

    private static int greater(int a, int b) {
        return a > b ? a : b;
    }

    private void workOutResponses(int f) {
        for (int cell = 0; cell < CELLS; cell++) {
            responses[cell] = weightedSum(f, cells, cell);
        }
    }

    private int weightedSum(int f, int[] image, int cell) {
        int sum = 0;
        for (int j = 0; j < 3; j++) {
            for (int i = 0; i < 3; i++) {
                int x = cell % SIDE + i - 1;
                int y = cell / SIDE + j - 1;
                if (isPlace(x) && isPlace(y)) {
                    sum += weights[WEIGHTS * f + 3 * j + i] * image[SIDE * y + x];
                }
            }
        }
        return sum;
    }

    private int firstGreatestCell() {
        int best = 0;
        for (int cell = 1; cell < CELLS; cell++) {
            if (responses[cell] > responses[best]) {
                best = cell;
            }
        }
        return best;
    }
}
