/**
 * The document once more, cell by cell and as slowly as it likes, to compare ColourTide with.
 * It knows nothing of exceptions: it is asked only what the document answers.
 */
final class PlainModel {
    private static final int[][] STEPS = {{-1, 0}, {1, 0}, {0, -1}, {0, 1}};

    int w = 4;
    int h = 4;
    int need = 2;
    int waves = 0;
    int[][] colour = new int[4][4];
    boolean[][] stubborn = new boolean[4][4];

    void newMap(int newW, int newH) {
        w = newW;
        h = newH;
        waves = 0;
        colour = new int[h][w];
        stubborn = new boolean[h][w];
    }

    PlainModel copy() {
        PlainModel copy = new PlainModel();
        copy.newMap(w, h);
        copy.need = need;
        copy.waves = waves;
        for (int y = 0; y < h; y++) {
            for (int x = 0; x < w; x++) {
                copy.colour[y][x] = colour[y][x];
                copy.stubborn[y][x] = stubborn[y][x];
            }
        }
        return copy;
    }

    boolean has(int x, int y) {
        return x >= 0 && x < w && y >= 0 && y < h;
    }

    int neighboursWith(int x, int y, int c) {
        int count = 0;
        for (int[] step : STEPS) {
            int nx = x + step[0];
            int ny = y + step[1];
            if (has(nx, ny) && colour[ny][nx] == c) {
                count++;
            }
        }
        return count;
    }

    int nextColour(int x, int y) {
        if (stubborn[y][x]) {
            return colour[y][x];
        }
        for (int c = 1; c <= 4; c++) {
            boolean most = neighboursWith(x, y, c) >= need;
            for (int other = 1; other <= 4; other++) {
                if (other != c && neighboursWith(x, y, other) >= neighboursWith(x, y, c)) {
                    most = false;
                }
            }
            if (most) {
                return c;
            }
        }
        return colour[y][x];
    }

    int pass(int count) {
        int changed = 0;
        for (int i = 0; i < count; i++) {
            changed = 0;
            int[][] next = new int[h][w];
            for (int y = 0; y < h; y++) {
                for (int x = 0; x < w; x++) {
                    next[y][x] = nextColour(x, y);
                    changed += next[y][x] != colour[y][x] ? 1 : 0;
                }
            }
            colour = next;
            waves++;
        }
        return changed;
    }

    private int mark(int x, int y, boolean[][] seen) {
        seen[y][x] = true;
        int size = 1;
        for (int ny = 0; ny < h; ny++) {
            for (int nx = 0; nx < w; nx++) {
                boolean beside = Math.abs(nx - x) + Math.abs(ny - y) == 1;
                if (beside && !seen[ny][nx] && colour[ny][nx] == colour[y][x]) {
                    size += mark(nx, ny, seen);
                }
            }
        }
        return size;
    }

    int regionSize(int x, int y) {
        return colour[y][x] == 0 ? 0 : mark(x, y, new boolean[h][w]);
    }

    int regionsOf(int c) {
        boolean[][] seen = new boolean[h][w];
        int regions = 0;
        for (int y = 0; y < h; y++) {
            for (int x = 0; x < w; x++) {
                if (colour[y][x] == c && !seen[y][x]) {
                    regions++;
                    mark(x, y, seen);
                }
            }
        }
        return regions;
    }

    int greatestRegion(int c) {
        int greatest = 0;
        for (int y = 0; y < h; y++) {
            for (int x = 0; x < w; x++) {
                if (colour[y][x] == c) {
                    greatest = Math.max(greatest, regionSize(x, y));
                }
            }
        }
        return greatest;
    }

    int cellsOf(int c) {
        int count = 0;
        for (int[] row : colour) {
            for (int each : row) {
                count += each == c ? 1 : 0;
            }
        }
        return count;
    }

    int stubbornCells() {
        int count = 0;
        for (boolean[] row : stubborn) {
            for (boolean each : row) {
                count += each ? 1 : 0;
            }
        }
        return count;
    }

    int borders() {
        int twice = 0;
        for (int y = 0; y < h; y++) {
            for (int x = 0; x < w; x++) {
                for (int c = 1; c <= 4; c++) {
                    if (colour[y][x] != 0 && colour[y][x] != c) {
                        twice += neighboursWith(x, y, c);
                    }
                }
            }
        }
        return twice / 2;
    }

    int leader() {
        int most = Math.max(Math.max(cellsOf(1), cellsOf(2)), Math.max(cellsOf(3), cellsOf(4)));
        for (int c = 1; c <= 4; c++) {
            if (most > 0 && cellsOf(c) == most) {
                return c;
            }
        }
        return 0;
    }

    boolean isStill() {
        return copy().pass(1) == 0;
    }

    int winner() {
        return leader() != 0 && cellsOf(leader()) == w * h ? leader() : 0;
    }

    int wavesUntilStill() {
        PlainModel copy = copy();
        for (int gone = 0; gone <= 40; gone++) {
            if (copy.isStill()) {
                return gone;
            }
            copy.pass(1);
        }
        return -1;
    }

    int cellsAfter(int count, int c) {
        PlainModel copy = copy();
        copy.pass(count);
        return copy.cellsOf(c);
    }

    boolean wins(int c) {
        PlainModel copy = copy();
        for (int gone = 0; gone <= 8; gone++) {
            if (copy.winner() == c) {
                return true;
            }
            copy.pass(1);
        }
        return false;
    }

    private boolean winsWith(int c, int... cells) {
        PlainModel copy = copy();
        for (int cell : cells) {
            copy.colour[cell / w][cell % w] = c;
        }
        return copy.wins(c);
    }

    int fewestSeeds(int c) {
        if (wins(c)) {
            return 0;
        }
        for (int cell = 0; cell < w * h; cell++) {
            if (winsWith(c, cell)) {
                return 1;
            }
        }
        for (int first = 0; first < w * h; first++) {
            for (int second = first + 1; second < w * h; second++) {
                if (winsWith(c, first, second)) {
                    return 2;
                }
            }
        }
        return -1;
    }

    int bestCell(int c, int count) {
        int best = -1;
        int most = -1;
        for (int cell = 0; cell < w * h; cell++) {
            PlainModel copy = copy();
            copy.colour[cell / w][cell % w] = c;
            int cells = copy.cellsAfter(count, c);
            if (cells > most) {
                most = cells;
                best = cell;
            }
        }
        return best;
    }

    long digest() {
        long d = 1871;
        long[] numbers = {w, h, need, waves, stubbornCells(), borders(), leader(), isStill() ? 1 : 0, winner()};
        for (long x : numbers) {
            d = d * 31 + x;
        }
        for (int c = 1; c <= 4; c++) {
            d = ((d * 31 + cellsOf(c)) * 31 + regionsOf(c)) * 31 + greatestRegion(c);
        }
        for (int y = 0; y < h; y++) {
            for (int x = 0; x < w; x++) {
                d = (d * 31 + colour[y][x]) * 31 + (stubborn[y][x] ? 1 : 0);
                d = (d * 31 + nextColour(x, y)) * 31 + regionSize(x, y);
            }
        }
        return d;
    }
}
