/**
 * A tide of colours on a map: cells are painted, and wave by wave each one takes the colour that
 * most of its neighbours have, unless it is stubborn.
 */
public final class ColourTide {
    private static final int LEAST_SIDE = 2;
    private static final int MOST_SIDE = 5;
    private static final int FIRST_SIDE = 4;
    private static final int BARE = 0;
    private static final int COLOURS = 4;
    private static final int MOST_NEIGHBOURS = 4;
    private static final int FIRST_NEED = 2;
    private static final int MOST_CELLS = MOST_SIDE * MOST_SIDE;
    private static final int MOST_WAVES = 40;
    private static final int WAVES_TO_WIN = 8;
    private static final int WAVES_TO_LOOK_AHEAD = 24;
    private static final int DIGEST_START = 1871;
    private static final int DIGEST_FACTOR = 31;

    // A set of cells is one int, the cell at column x and row y its bit x + STRIDE * y. The column
    // behind the last one is never on a map, so that a shift can't carry a cell into the next row.
    private static final int STRIDE = MOST_SIDE + 1;
    private static final int PLACES = STRIDE * MOST_SIDE;

    private final Tide map;
    // Waves that are only asked about go over this one, made once for all calls.
    private final Tide trial;
    private int width;
    private int height;
    private int waves;

    /** Creates a bare map, 4 cells wide and 4 high. */
    public ColourTide() {
        map = new Tide();
        trial = new Tide();
        width = FIRST_SIDE;
        height = FIRST_SIDE;
        waves = 0;
        map.clear(FIRST_SIDE, FIRST_SIDE);
    }

    // ---- the map

    /** Takes another map, bare, without stubborn cells; the number of its cells. */
    public int newMap(int w, int h) throws IllegalArgumentException {
        if (!isSide(w) || !isSide(h)) {
            throw new IllegalArgumentException("a map is 2 to 5 cells wide and high");
        }
        width = w;
        height = h;
        waves = 0;
        map.clear(w, h);
        return w * h;
    }

    /** Paints a cell, a stubborn one as well; the colour that it had. */
    public int paint(int x, int y, int colour) throws IndexOutOfBoundsException {
        if (!isOnMap(x, y) || !isColourOrBare(colour)) {
            throw new IndexOutOfBoundsException("no such cell or colour");
        }
        int before = map.colourOf(cell(x, y));
        map.dye(cell(x, y), colour);
        return before;
    }

    /** Makes a cell stubborn, or not any more; whether it is stubborn then. */
    public boolean turnStubborn(int x, int y) throws IndexOutOfBoundsException {
        if (!isOnMap(x, y)) {
            throw new IndexOutOfBoundsException("no such cell");
        }
        map.stubborn ^= cell(x, y);
        return (map.stubborn & cell(x, y)) != 0;
    }

    /** Sets the need from now on; the one before. */
    public int setNeed(int need) throws IllegalArgumentException {
        if (need < 1 || need > MOST_NEIGHBOURS) {
            throw new IllegalArgumentException("the need is 1 to 4");
        }
        int before = map.need;
        map.need = need;
        return before;
    }

    /** Lets waves go over the map; how many cells changed in the last one of them. */
    public int pass(int waves) throws IllegalArgumentException {
        if (waves < 1 || waves > MOST_WAVES) {
            throw new IllegalArgumentException("1 to 40 waves");
        }
        this.waves += waves;
        return Integer.bitCount(map.surge(waves));
    }

    // ---- cells

    /** The colour of a cell, 0 if it is bare. */
    public int colourAt(int x, int y) throws IndexOutOfBoundsException {
        if (!isOnMap(x, y)) {
            throw new IndexOutOfBoundsException("no such cell");
        }
        return map.colourOf(cell(x, y));
    }

    public boolean isStubborn(int x, int y) throws IndexOutOfBoundsException {
        if (!isOnMap(x, y)) {
            throw new IndexOutOfBoundsException("no such cell");
        }
        return (map.stubborn & cell(x, y)) != 0;
    }

    /** How many neighbours of a cell have a colour, or are bare. */
    public int neighboursWith(int x, int y, int colour) throws IndexOutOfBoundsException {
        if (!isOnMap(x, y) || !isColourOrBare(colour)) {
            throw new IndexOutOfBoundsException("no such cell or colour");
        }
        return Integer.bitCount(nextTo(cell(x, y)) & map.cellsWith(colour));
    }

    /** The colour that a cell would have behind a wave, 0 if it is bare then. */
    public int nextColour(int x, int y) throws IndexOutOfBoundsException {
        if (!isOnMap(x, y)) {
            throw new IndexOutOfBoundsException("no such cell");
        }
        map.foresee();
        return map.foreseenColourOf(cell(x, y));
    }

    /** How many cells the region of a cell has; 0 if it is bare. */
    public int regionSize(int x, int y) throws IndexOutOfBoundsException {
        if (!isOnMap(x, y)) {
            throw new IndexOutOfBoundsException("no such cell");
        }
        return map.sizeOfRegion(cell(x, y));
    }

    // ---- the whole map

    public int width() {
        return width;
    }

    public int height() {
        return height;
    }

    public int need() {
        return map.need;
    }

    /** How many waves went over this map. */
    public int waves() {
        return waves;
    }

    public int stubbornCells() {
        return Integer.bitCount(map.stubborn);
    }

    /** How many cells have a colour, or are bare. */
    public int cellsOf(int colour) throws IndexOutOfBoundsException {
        if (!isColourOrBare(colour)) {
            throw new IndexOutOfBoundsException("no such colour");
        }
        return map.count(colour);
    }

    /** How many regions a colour has. */
    public int regionsOf(int colour) throws IndexOutOfBoundsException {
        if (!isColour(colour)) {
            throw new IndexOutOfBoundsException("no such colour");
        }
        return map.countRegions(colour);
    }

    /** How many cells the greatest region of a colour has; 0 without one. */
    public int greatestRegion(int colour) throws IndexOutOfBoundsException {
        if (!isColour(colour)) {
            throw new IndexOutOfBoundsException("no such colour");
        }
        return map.sizeOfGreatestRegion(colour);
    }

    /** Of how many pairs of neighbours both have colours, and different ones. */
    public int borders() {
        return map.countBorders();
    }

    /** The colour with the most cells, of several the smallest; 0 if all cells are bare. */
    public int leader() {
        int leader = BARE;
        int most = 0;
        for (int colour = 1; colour <= COLOURS; colour++) {
            int count = map.count(colour);
            if (count > most) {
                most = count;
                leader = colour;
            }
        }
        return leader;
    }

    /** Whether no cell would change in a wave. */
    public boolean isStill() {
        return map.foresee() == 0;
    }

    /** The colour that all cells have; 0 if they have not all one, or are bare. */
    public int winner() {
        for (int colour = 1; colour <= COLOURS; colour++) {
            if (map.isAll(colour)) {
                return colour;
            }
        }
        return BARE;
    }

    // ---- what would be

    /** Behind how many waves, at most 40, the map is still for the first time; -1 if not by then. */
    public int wavesUntilStill() {
        trial.copyFrom(map);
        for (int gone = 0; gone <= MOST_WAVES; gone++) {
            if (trial.surge(1) == 0) {
                return gone;
            }
        }
        return -1;
    }

    /** How many cells would have a colour, or be bare, behind some waves. */
    public int cellsAfter(int waves, int colour)
            throws IllegalArgumentException, IndexOutOfBoundsException {
        if (waves < 1 || waves > MOST_WAVES) {
            throw new IllegalArgumentException("1 to 40 waves");
        }
        if (!isColourOrBare(colour)) {
            throw new IndexOutOfBoundsException("no such colour");
        }
        return countAfter(0, colour, waves);
    }

    /** Whether all cells have a colour behind some number of waves, 0 to 8. */
    public boolean wins(int colour) throws IndexOutOfBoundsException {
        if (!isColour(colour)) {
            throw new IndexOutOfBoundsException("no such colour");
        }
        return winsWith(0, colour);
    }

    /** How few cells, 0 to 2, have to be painted in a colour so that it wins; -1 if 2 are too few. */
    public int fewestSeeds(int colour) throws IndexOutOfBoundsException {
        if (!isColour(colour)) {
            throw new IndexOutOfBoundsException("no such colour");
        }
        if (winsWith(0, colour)) {
            return 0;
        }
        if (winsWithOneSeed(colour)) {
            return 1;
        }
        return winsWithTwoSeeds(colour) ? 2 : -1;
    }

    /** The number of the cell to paint in a colour so that the most cells have it behind some waves. */
    public int bestCell(int colour, int waves)
            throws IndexOutOfBoundsException, IllegalArgumentException {
        if (!isColour(colour)) {
            throw new IndexOutOfBoundsException("no such colour");
        }
        if (waves < 1 || waves > WAVES_TO_LOOK_AHEAD) {
            throw new IllegalArgumentException("1 to 24 waves");
        }
        int best = 0;
        int most = -1;
        for (int y = 0; y < height; y++) {
            for (int x = 0; x < width; x++) {
                int count = countAfter(cell(x, y), colour, waves);
                if (count > most) {
                    most = count;
                    best = width * y + x;
                }
            }
        }
        return best;
    }

    /** How many cells have a colour, or are bare, divided by all cells. */
    public double share(int colour) throws IndexOutOfBoundsException {
        if (!isColourOrBare(colour)) {
            throw new IndexOutOfBoundsException("no such colour");
        }
        int all = width * height;
        return all == 0 ? 0.0 : (double) map.count(colour) / all;
    }

    /** A checksum over all that can be asked of the map now. */
    public long digest() {
        long d = digestOfMap();
        for (int colour = 1; colour <= COLOURS; colour++) {
            d = mix(d, map.count(colour));
            d = mix(d, map.countRegions(colour));
            d = mix(d, map.sizeOfGreatestRegion(colour));
        }
        map.foresee();
        for (int y = 0; y < height; y++) {
            for (int x = 0; x < width; x++) {
                d = mixCell(d, cell(x, y));
            }
        }
        return d;
    }

    private long digestOfMap() {
        long d = DIGEST_START;
        d = mix(d, width);
        d = mix(d, height);
        d = mix(d, map.need);
        d = mix(d, waves);
        d = mix(d, stubbornCells());
        d = mix(d, borders());
        d = mix(d, leader());
        d = mix(d, isStill() ? 1 : 0);
        return mix(d, winner());
    }

    // Reads what map.foresee() has found, so that it runs once for all cells.
    private long mixCell(long start, int cell) {
        long d = mix(start, map.colourOf(cell));
        d = mix(d, (map.stubborn & cell) != 0 ? 1 : 0);
        d = mix(d, map.foreseenColourOf(cell));
        return mix(d, map.sizeOfRegion(cell));
    }

    private static long mix(long d, int x) {
        return d * DIGEST_FACTOR + x;
    }

    private boolean winsWithOneSeed(int colour) {
        for (int place = 0; place < PLACES; place++) {
            int seed = map.board & (1 << place);
            if (seed != 0 && winsWith(seed, colour)) {
                return true;
            }
        }
        return false;
    }

    private boolean winsWithTwoSeeds(int colour) {
        for (int first = 0; first < PLACES; first++) {
            for (int second = first + 1; second < PLACES; second++) {
                int seeds = (1 << first) | (1 << second);
                if ((seeds & ~map.board) == 0 && winsWith(seeds, colour)) {
                    return true;
                }
            }
        }
        return false;
    }

    private boolean winsWith(int seeds, int colour) {
        trial.copyFrom(map);
        trial.dye(seeds, colour);
        // A map all of one colour is still, so that a win on the way is seen at the end as well.
        trial.surge(WAVES_TO_WIN);
        return trial.isAll(colour);
    }

    private int countAfter(int seeds, int colour, int waves) {
        trial.copyFrom(map);
        trial.dye(seeds, colour);
        trial.surge(waves);
        return trial.count(colour);
    }

    private boolean isOnMap(int x, int y) {
        return x >= 0 && x < width && y >= 0 && y < height;
    }

    private static boolean isSide(int cells) {
        return cells >= LEAST_SIDE && cells <= MOST_SIDE;
    }

    private static boolean isColour(int colour) {
        return colour >= 1 && colour <= COLOURS;
    }

    private static boolean isColourOrBare(int colour) {
        return colour == BARE || isColour(colour);
    }

    private static int cell(int x, int y) {
        return 1 << (x + STRIDE * y);
    }

    // May hold places that are on no map; who asks cuts them off.
    private static int nextTo(int cells) {
        return (cells << 1) | (cells >>> 1) | (cells << STRIDE) | (cells >>> STRIDE);
    }

    /** The colours of a map, a set of cells each, and how waves go over them. */
    private static final class Tide {
        static final int SETS = COLOURS + 1;

        int board;
        int stubborn;
        int need;
        // Each by colour, 0 for bare: the cells that have it, and for one wave the cells that
        // have enough neighbours with it and the cells that most of their neighbours give it to.
        final int[] sets;
        final int[] crowds;
        final int[] gains;

        Tide() {
            need = FIRST_NEED;
            sets = new int[SETS];
            crowds = new int[SETS];
            gains = new int[SETS];
        }

        void clear(int w, int h) {
            board = 0;
            for (int y = 0; y < h; y++) {
                for (int x = 0; x < w; x++) {
                    board |= cell(x, y);
                }
            }
            stubborn = 0;
            for (int colour = 0; colour < SETS; colour++) {
                sets[colour] = colour == BARE ? board : 0;
            }
        }

        void copyFrom(Tide other) {
            board = other.board;
            stubborn = other.stubborn;
            need = other.need;
            for (int colour = 0; colour < SETS; colour++) {
                sets[colour] = other.sets[colour];
            }
        }

        int cellsWith(int colour) {
            return colour >= 0 && colour < SETS ? sets[colour] : 0;
        }

        int count(int colour) {
            return Integer.bitCount(cellsWith(colour));
        }

        boolean isAll(int colour) {
            return cellsWith(colour) == board;
        }

        int colourOf(int cell) {
            return firstColourWith(cell, sets);
        }

        void dye(int cells, int colour) {
            for (int each = 0; each < SETS; each++) {
                sets[each] = each == colour ? sets[each] | cells : sets[each] & ~cells;
            }
        }

        /** Lets waves go over the map; the cells that changed in the last one of them. */
        int surge(int count) {
            int changed = 0;
            for (int i = 0; i < count; i++) {
                changed = foresee();
                if (changed == 0) {
                    // Nothing changes any more in the waves that are left either.
                    return 0;
                }
                takeGains(changed);
            }
            return changed;
        }

        /** Finds what the next wave gives to which cells; the cells that it would change. */
        int foresee() {
            for (int colour = 0; colour < SETS; colour++) {
                gains[colour] = 0;
            }
            for (int least = need; least <= MOST_NEIGHBOURS; least++) {
                addGains(least);
            }
            int changed = 0;
            for (int colour = 1; colour < SETS; colour++) {
                changed |= gains[colour] & ~sets[colour];
            }
            return changed;
        }

        /** The colour of a cell behind the wave that foresee() has looked at last. */
        int foreseenColourOf(int cell) {
            int gained = firstColourWith(cell, gains);
            return gained == BARE ? colourOf(cell) : gained;
        }

        int sizeOfRegion(int cell) {
            int colour = colourOf(cell);
            return colour == BARE ? 0 : Integer.bitCount(regionFrom(cell, cellsWith(colour)));
        }

        int countRegions(int colour) {
            int left = cellsWith(colour);
            int regions = 0;
            for (int i = 0; i < MOST_CELLS && left != 0; i++) {
                left &= ~regionFrom(left & -left, left);
                regions++;
            }
            return regions;
        }

        int sizeOfGreatestRegion(int colour) {
            int left = cellsWith(colour);
            int greatest = 0;
            for (int i = 0; i < MOST_CELLS && left != 0; i++) {
                int region = regionFrom(left & -left, left);
                left &= ~region;
                greatest = Math.max(greatest, Integer.bitCount(region));
            }
            return greatest;
        }

        int countBorders() {
            int pairs = countPairs(board & ~cellsWith(BARE));
            for (int colour = 1; colour < SETS; colour++) {
                pairs -= countPairs(sets[colour]);
            }
            return pairs;
        }

        // A colour is ahead of each other one, with at least the need, where for some number from
        // the need on it alone has so many neighbours of the cell.
        private void addGains(int least) {
            int some = 0;
            int several = 0;
            for (int colour = 1; colour < SETS; colour++) {
                crowds[colour] = withNeighbours(sets[colour], least);
                several |= some & crowds[colour];
                some |= crowds[colour];
            }
            for (int colour = 1; colour < SETS; colour++) {
                gains[colour] |= crowds[colour] & ~several & board & ~stubborn;
            }
        }

        private void takeGains(int changed) {
            for (int colour = 0; colour < SETS; colour++) {
                sets[colour] = (sets[colour] & ~changed) | (gains[colour] & changed);
            }
        }

        // The places that have at least so many neighbours, 1 to 4, in a set of cells.
        private static int withNeighbours(int cells, int least) {
            int oneBeside = (cells << 1) | (cells >>> 1);
            int bothBeside = (cells << 1) & (cells >>> 1);
            int oneAboveOrBelow = (cells << STRIDE) | (cells >>> STRIDE);
            int bothAboveAndBelow = (cells << STRIDE) & (cells >>> STRIDE);
            switch (least) {
                case 1:
                    return oneBeside | oneAboveOrBelow;
                case 2:
                    return bothBeside | bothAboveAndBelow | (oneBeside & oneAboveOrBelow);
                case 3:
                    return (bothBeside & oneAboveOrBelow) | (oneBeside & bothAboveAndBelow);
                case 4:
                    return bothBeside & bothAboveAndBelow;
                default:
                    return 0;
            }
        }

        private static int regionFrom(int cell, int cells) {
            int region = cell;
            for (int i = 0; i < MOST_CELLS; i++) {
                int grown = region | (nextTo(region) & cells);
                if (grown == region) {
                    return region;
                }
                region = grown;
            }
            return region;
        }

        // How many pairs of neighbours lie in a set of cells with both.
        private static int countPairs(int cells) {
            return Integer.bitCount(cells & (cells << 1)) + Integer.bitCount(cells & (cells << STRIDE));
        }

        private static int firstColourWith(int cell, int[] cellsByColour) {
            for (int colour = 1; colour < cellsByColour.length; colour++) {
                if ((cellsByColour[colour] & cell) != 0) {
                    return colour;
                }
            }
            return BARE;
        }
    }
}
