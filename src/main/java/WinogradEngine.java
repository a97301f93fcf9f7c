public final class WinogradEngine {
    public static final int BAD = -1000000000;

    private static final int SIDE = 10;
    private static final int CELLS = 100;
    private static final int BLOCKS_ACROSS = 5;
    private static final int BLOCKS = 25;
    private static final int FILTERS = 2;
    private static final int WEIGHTS = 9;
    private static final int ALL_WEIGHTS = 18;
    private static final int CELL_LIMIT = 99;
    private static final int WEIGHT_LIMIT = 9;
    private static final int PATCH_SIDE = 4;
    private static final int PATCH = 16;

    private final int[] cells = new int[CELLS];
    private final int[] weights = new int[ALL_WEIGHTS];
    // Working room, filled anew by each call that reads it, so that it can never be out of date.
    private final int[] responses = new int[CELLS];
    private final int[] spreadWeights = new int[PATCH];
    private final int[] patch = new int[PATCH];

    public WinogradEngine() {
    }

    public boolean set(int cell, int value) {
        if (!isCell(cell) || !isCellValue(value)) {
            return false;
        }
        cells[cell] = value;
        return true;
    }

    public int stripe(int line, int from, int to, int value) {
        if (line < 0 || line >= 2 * SIDE || !isPlace(from) || !isPlace(to) || !isCellValue(value)) {
            return BAD;
        }
        boolean isRow = line < SIDE;
        int first = isRow ? SIDE * line : line - SIDE;
        int step = isRow ? 1 : SIDE;
        int count = 0;
        for (int place = from; place <= to; place++) {
            cells[first + step * place] = value;
            count++;
        }
        return count;
    }

    public boolean weight(int f, int number, int value) {
        if (!isFilter(f) || number < 0 || number >= WEIGHTS || value < -WEIGHT_LIMIT || value > WEIGHT_LIMIT) {
            return false;
        }
        weights[WEIGHTS * f + number] = value;
        return true;
    }

    public int response(int f, int cell) {
        if (!isFilter(f) || !isCell(cell)) {
            return BAD;
        }
        return responseAt(f, cell % SIDE, cell / SIDE);
    }

    public int second(int cell) {
        if (!isCell(cell)) {
            return BAD;
        }
        int sum = 0;
        for (int number = 0; number < WEIGHTS; number++) {
            int x = cell % SIDE + number % 3 - 1;
            int y = cell / SIDE + number / 3 - 1;
            // Filter 0 has a response beside the image too, but there the second response sees 0.
            if (isPlace(x) && isPlace(y)) {
                int inner = responseAt(0, x, y);
                sum += weights[WEIGHTS + number] * inner;
            }
        }
        return sum;
    }

    public int greatest(int f) {
        if (!isFilter(f)) {
            return BAD;
        }
        workOutResponses(f);
        int best = firstGreatestCell();
        return responses[best];
    }

    public int where(int f) {
        if (!isFilter(f)) {
            return BAD;
        }
        workOutResponses(f);
        return firstGreatestCell();
    }

    public int total(int f) {
        if (!isFilter(f)) {
            return BAD;
        }
        workOutResponses(f);
        int sum = 0;
        for (int cell = 0; cell < CELLS; cell++) {
            sum += responses[cell];
        }
        return sum;
    }

    public int pooled(int f, int block) {
        if (!isFilter(f) || block < 0 || block >= BLOCKS) {
            return BAD;
        }
        spreadFilter(f);
        workOutBlock(block);
        int corner = cornerOf(block);
        int upper = greater(responses[corner], responses[corner + 1]);
        int lower = greater(responses[corner + SIDE], responses[corner + SIDE + 1]);
        return greater(upper, lower);
    }

    public int apply(int f) {
        if (!isFilter(f)) {
            return BAD;
        }
        workOutResponses(f);
        int cuts = 0;
        for (int cell = 0; cell < CELLS; cell++) {
            int value = responses[cell];
            if (isCellValue(value)) {
                cells[cell] = value;
            } else {
                cells[cell] = value < 0 ? -CELL_LIMIT : CELL_LIMIT;
                cuts++;
            }
        }
        return cuts;
    }

    public boolean turn(int f) {
        if (!isFilter(f)) {
            return false;
        }
        int low = WEIGHTS * f;
        int high = low + WEIGHTS - 1;
        for (int k = 0; k < WEIGHTS / 2; k++) {
            int kept = weights[low + k];
            weights[low + k] = weights[high - k];
            weights[high - k] = kept;
        }
        return true;
    }

    private static boolean isCell(int cell) {
        return cell >= 0 && cell < CELLS;
    }

    private static boolean isPlace(int place) {
        return place >= 0 && place < SIDE;
    }

    private static boolean isCellValue(int value) {
        return value >= -CELL_LIMIT && value <= CELL_LIMIT;
    }

    private static boolean isFilter(int f) {
        return f >= 0 && f < FILTERS;
    }

    private static int greater(int a, int b) {
        return a > b ? a : b;
    }

    private static int cornerOf(int block) {
        return 2 * SIDE * (block / BLOCKS_ACROSS) + 2 * (block % BLOCKS_ACROSS);
    }

    private int imageAt(int x, int y) {
        return isPlace(x) && isPlace(y) ? cells[SIDE * y + x] : 0;
    }

    // For one cell alone nine products are the fewest, so the sum is taken as it stands.
    private int responseAt(int f, int x, int y) {
        int sum = 0;
        for (int number = 0; number < WEIGHTS; number++) {
            int value = imageAt(x + number % 3 - 1, y + number / 3 - 1);
            sum += weights[WEIGHTS * f + number] * value;
        }
        return sum;
    }

    private void workOutResponses(int f) {
        spreadFilter(f);
        for (int block = 0; block < BLOCKS; block++) {
            workOutBlock(block);
        }
    }

    // Winograd's way for two by two responses at once: filter and image are first mixed by sums and
    // differences, so that 16 products do the work of 36. The mixed filter is kept twice as great in each
    // direction, as its halves would not be whole numbers; a sum of its products is thus four times the response.
    private void workOutBlock(int block) {
        int corner = cornerOf(block);
        loadPatch(corner % SIDE - 1, corner / SIDE - 1);
        for (int k = 0; k < PATCH_SIDE; k++) {
            mixLine(k, PATCH_SIDE);
        }
        for (int k = 0; k < PATCH_SIDE; k++) {
            mixLine(PATCH_SIDE * k, 1);
        }
        for (int k = 0; k < PATCH; k++) {
            patch[k] *= spreadWeights[k];
        }
        for (int k = 0; k < PATCH_SIDE; k++) {
            gatherLine(k, PATCH_SIDE);
        }
        for (int k = 0; k < 2; k++) {
            gatherLine(PATCH_SIDE * k, 1);
        }
        responses[corner] = patch[0] / 4;
        responses[corner + 1] = patch[1] / 4;
        responses[corner + SIDE] = patch[PATCH_SIDE] / 4;
        responses[corner + SIDE + 1] = patch[PATCH_SIDE + 1] / 4;
    }

    private void spreadFilter(int f) {
        for (int number = 0; number < WEIGHTS; number++) {
            spreadWeights[PATCH_SIDE * (number / 3) + number % 3] = weights[WEIGHTS * f + number];
        }
        for (int k = 0; k < 3; k++) {
            spreadLine(k, PATCH_SIDE);
        }
        for (int k = 0; k < PATCH_SIDE; k++) {
            spreadLine(PATCH_SIDE * k, 1);
        }
    }

    private void spreadLine(int start, int step) {
        int a = spreadWeights[start];
        int b = spreadWeights[start + step];
        int c = spreadWeights[start + 2 * step];
        spreadWeights[start] = a + a;
        spreadWeights[start + step] = a + b + c;
        spreadWeights[start + 2 * step] = a - b + c;
        spreadWeights[start + 3 * step] = c + c;
    }

    private void loadPatch(int left, int top) {
        for (int k = 0; k < PATCH; k++) {
            patch[k] = imageAt(left + k % PATCH_SIDE, top + k / PATCH_SIDE);
        }
    }

    private void mixLine(int start, int step) {
        int a = patch[start];
        int b = patch[start + step];
        int c = patch[start + 2 * step];
        int d = patch[start + 3 * step];
        patch[start] = a - c;
        patch[start + step] = b + c;
        patch[start + 2 * step] = c - b;
        patch[start + 3 * step] = b - d;
    }

    private void gatherLine(int start, int step) {
        int a = patch[start];
        int b = patch[start + step];
        int c = patch[start + 2 * step];
        int d = patch[start + 3 * step];
        patch[start] = a + b + c;
        patch[start + step] = b - c - d;
    }

    private int firstGreatestCell() {
        int best = 0;
        for (int cell = 1; cell < CELLS; cell++) {
            if (responses[cell] > responses[best]) {
                best = cell;
            }
        }
        return best;
    }
}
