import java.util.Arrays;

/**
 * Tiles by rules: tiles with coloured edges, pieces that cover a board, letters that grow into
 * blocks, corners round a point. This class looks at the numbers of every call; the classes inside
 * it hold the state and do the work, and rely on what was looked at here.
 */
public final class TileRules {
    public static final int NONE = -1, BAD = -2, FULL = -3, THERE = -4;

    private static final int MOST_TILES = 8, MOST_COLOUR = 9, MOST_SIDE = 4;
    private static final int MOST_PIECES = 6, MOST_PIECE_CELLS = 5, PIECE_SIDE = 5;
    private static final int MOST_BOARD_WIDTH = 5, MOST_BOARD_HEIGHT = 4, MOST_CELLS = 20;
    private static final int MOST_LETTERS = 6, LEAST_BLOCK_SIDE = 2, MOST_BLOCK_SIDE = 3;
    private static final int MOST_LETTER_GROWTH = 12, MOST_MANY_GROWTH = 18, MOST_SQUARES_GROWTH = 5;
    private static final int MOST_CORNERS = 6, MOST_TURN = 18;
    private static final int EACH_ONCE = 0, ANY_OFTEN = 1, ONCE_AT_MOST = 2;
    private static final int EAST = 0, SOUTH = 1;

    private final TileSet tileSet;
    private final Jigsaw jigsaw;
    private final Blocks blocks;
    private final CornerSet cornerSet;
    // These are made when a call first needs them: their arrays are large, and many objects never do.
    private RowGraph rowGraph = null;
    private CoverSearch coverSearch = null;
    private Growth growth = null;

    public TileRules() {
        tileSet = new TileSet();
        jigsaw = new Jigsaw();
        blocks = new Blocks();
        cornerSet = new CornerSet();
    }

    public int tile(int north, int east, int south, int west) {
        if (!isColour(north) || !isColour(east) || !isColour(south) || !isColour(west)) {
            return BAD;
        }
        return tileSet.size >= MOST_TILES ? FULL : tileSet.add(north, east, south, west);
    }

    public int untile() {
        return tileSet.size == 0 ? NONE : tileSet.dropLast();
    }

    public long fillings(int w, int h, boolean ring) {
        if (!isSide(w) || !isSide(h)) {
            return BAD;
        }
        RowGraph rows = rowsOf(w, ring);
        return ring ? rows.countRings(h) : rows.countOpen(h);
    }

    public int laid(int w, int h, boolean ring, int x, int y) {
        if (!isSide(w) || !isSide(h) || !isBetween(x, 0, w - 1) || !isBetween(y, 0, h - 1)) {
            return BAD;
        }
        return rowsOf(w, ring).firstTileAt(h, x, y);
    }

    public int repeats() {
        for (int area = 1; area <= MOST_SIDE * MOST_SIDE; area++) {
            for (int w = 1; w <= MOST_SIDE; w++) {
                int h = area / w;
                if (h * w == area && isSide(h) && rowsOf(w, true).firstRingRow(h) != NONE) {
                    return 10 * w + h;
                }
            }
        }
        return NONE;
    }

    public int radius() {
        for (int k = 1; k <= MOST_SIDE; k++) {
            if (rowsOf(k, false).countOpen(k) == 0) {
                return k;
            }
        }
        return NONE;
    }

    public long middle(int t) {
        if (!isBetween(t, 0, tileSet.size - 1)) {
            return BAD;
        }
        return rowsOf(3, false).countAroundMiddle(t);
    }

    public int piece(int cells) {
        if (!isBetween(cells, 1, (1 << PIECE_SIDE * PIECE_SIDE) - 1)) {
            return BAD;
        }
        if (Integer.bitCount(cells) > MOST_PIECE_CELLS || !Jigsaw.hangsTogether(cells)) {
            return BAD;
        }
        return jigsaw.pieceCount >= MOST_PIECES ? FULL : jigsaw.add(cells);
    }

    public int unpiece() {
        return jigsaw.pieceCount == 0 ? NONE : jigsaw.dropLast();
    }

    public int board(int w, int h, int holes) {
        if (!isBetween(w, 1, MOST_BOARD_WIDTH) || !isBetween(h, 1, MOST_BOARD_HEIGHT)) {
            return BAD;
        }
        if (!isBetween(holes, 0, (1 << w * h) - 1)) {
            return BAD;
        }
        jigsaw.setBoard(w, h, holes);
        return w * h - Integer.bitCount(holes);
    }

    public int may(int what, boolean on) {
        if (!isBetween(what, 0, 1)) {
            return BAD;
        }
        boolean was = what == 0 ? jigsaw.setTurns(on) : jigsaw.setMirrors(on);
        return was ? 1 : 0;
    }

    public int placements(int p) {
        return isBetween(p, 0, jigsaw.pieceCount - 1) ? jigsaw.countPlacements(p) : BAD;
    }

    public long covers(int mode) {
        return isMode(mode) ? searchOf(mode).countCovers() : BAD;
    }

    public int cover(int mode, int x, int y, int what) {
        if (!isMode(mode) || !isBetween(what, 0, 1)) {
            return BAD;
        }
        if (!isBetween(x, 0, jigsaw.width - 1) || !isBetween(y, 0, jigsaw.height - 1)) {
            return BAD;
        }
        CoverSearch search = searchOf(mode);
        if (!search.findLeastOn(jigsaw.width * y + x)) {
            return NONE;
        }
        return what == 0 ? search.foundPiece : search.foundCells;
    }

    public int fewest(int mode) {
        return isMode(mode) ? searchOf(mode).fewestPlacements() : BAD;
    }

    public int letters(int n, int a) {
        if (!isBetween(n, 1, MOST_LETTERS) || !isBetween(a, LEAST_BLOCK_SIDE, MOST_BLOCK_SIDE)) {
            return BAD;
        }
        int before = blocks.letterCount;
        blocks.reset(n, a);
        return before;
    }

    public int block(int l, int x, int y, int m) {
        if (!isLetter(l) || !isLetter(m)) {
            return BAD;
        }
        if (!isBetween(x, 0, blocks.side - 1) || !isBetween(y, 0, blocks.side - 1)) {
            return BAD;
        }
        return blocks.replace(l, x, y, m);
    }

    public int letter(int l, int k, int x, int y) {
        if (!isLetter(l) || !isBetween(k, 0, MOST_LETTER_GROWTH)) {
            return BAD;
        }
        int last = power(blocks.side, k) - 1;
        if (!isBetween(x, 0, last) || !isBetween(y, 0, last)) {
            return BAD;
        }
        return blocks.grownAt(l, k, x, y);
    }

    public long many(int l, int k, int m) {
        if (!isLetter(l) || !isLetter(m) || !isBetween(k, 0, MOST_MANY_GROWTH)) {
            return BAD;
        }
        return blocks.countGrown(l, k, m);
    }

    public int beside(int l, int i, int m, int way) {
        if (!isLetter(l) || !isLetter(i) || !isLetter(m) || !isBetween(way, EAST, SOUTH)) {
            return BAD;
        }
        return growthOf(l).firstBeside(i, m, way);
    }

    public int mixes() {
        return blocks.firstMixed();
    }

    public int squares(int l, int k) {
        if (!isLetter(l) || !isBetween(k, 0, MOST_SQUARES_GROWTH)) {
            return BAD;
        }
        return growthOf(l).countSquares(k);
    }

    public int turn(int n) {
        if (!isBetween(n, 1, MOST_TURN)) {
            return BAD;
        }
        int before = cornerSet.sum;
        cornerSet.sum = n;
        return before;
    }

    public int corner(int size) {
        if (!isBetween(size, 1, MOST_TURN)) {
            return BAD;
        }
        if (cornerSet.has(size)) {
            return THERE;
        }
        return cornerSet.size >= MOST_CORNERS ? FULL : cornerSet.add(size);
    }

    public int uncorner() {
        return cornerSet.size == 0 ? NONE : cornerSet.dropLast();
    }

    public int rounds(boolean mirrored) {
        return cornerSet.countRows(mirrored);
    }

    public int round(boolean mirrored, int k, int i) {
        if (k < 0 || i < -1 || !cornerSet.findRow(mirrored, k)) {
            return NONE;
        }
        if (i == -1) {
            return cornerSet.foundLength;
        }
        return i < cornerSet.foundLength ? cornerSet.row[i] : NONE;
    }

    public int count(int what) {
        switch (what) {
            case 0: return tileSet.size;
            case 1: return jigsaw.pieceCount;
            case 2: return cornerSet.size;
            case 3: return blocks.letterCount;
            case 4: return jigsaw.width * jigsaw.height;
            case 5: return cornerSet.sum;
            default: return BAD;
        }
    }

    private RowGraph rowsOf(int width, boolean closed) {
        int rows = power(tileSet.size, width);
        if (rowGraph == null || rowGraph.room < rows) {
            rowGraph = new RowGraph(tileSet, rows);
        }
        rowGraph.build(width, closed);
        return rowGraph;
    }

    private CoverSearch searchOf(int mode) {
        if (coverSearch == null) {
            coverSearch = new CoverSearch(jigsaw);
        }
        coverSearch.prepare(mode);
        return coverSearch;
    }

    private Growth growthOf(int l) {
        if (growth == null) {
            growth = new Growth(blocks);
        }
        growth.begin(l);
        return growth;
    }

    private boolean isLetter(int number) {
        return isBetween(number, 0, blocks.letterCount - 1);
    }

    private static boolean isColour(int number) {
        return isBetween(number, 0, MOST_COLOUR);
    }

    private static boolean isSide(int number) {
        return isBetween(number, 1, MOST_SIDE);
    }

    private static boolean isMode(int number) {
        return isBetween(number, EACH_ONCE, ONCE_AT_MOST);
    }

    private static boolean isBetween(int number, int least, int most) {
        return least <= number && number <= most;
    }

    private static int power(int base, int exponent) {
        int product = 1;
        for (int i = 0; i < exponent; i++) {
            product *= base;
        }
        return product;
    }

    /** The TILES, by their edges. */
    private static final class TileSet {
        final int[] north = new int[MOST_TILES];
        final int[] east = new int[MOST_TILES];
        final int[] south = new int[MOST_TILES];
        final int[] west = new int[MOST_TILES];
        int size = 0;

        int add(int northColour, int eastColour, int southColour, int westColour) {
            north[size] = northColour;
            east[size] = eastColour;
            south[size] = southColour;
            west[size] = westColour;
            size++;
            return size - 1;
        }

        int dropLast() {
            size--;
            return size;
        }
    }

    /**
     * All rows of TILES of one width, and how they can lie below one another. The colours along a
     * row's north and south side are told as one number each, its codes. Only colours that some
     * TILE has in the south get a digit, so there are no more codes than rows of any TILES.
     */
    private static final class RowGraph {
        private static final int TILE_BITS = 3, TILE_MASK = 7;
        private static final int LEAST_ROOM = 64, MOST_ROOM = 4096;

        final int room;
        private final TileSet tiles;
        private final int[] digitOf = new int[MOST_COLOUR + 1];
        private final int[] packed;
        private final int[] northCode;
        private final int[] southCode;
        private final Shelf byNorth;
        private final Shelf bySouth;
        // ways[d][c]: how many ways there are to lay d rows below the code c and end at a goal.
        private final Tally[] ways = new Tally[MOST_SIDE];
        private int width = 1;
        private boolean closed = false;
        private int digits = 0;
        private int codes = 0;
        private int rows = 0;

        RowGraph(TileSet tiles, int rowsNeeded) {
            this.tiles = tiles;
            room = roomFor(rowsNeeded);
            packed = new int[room];
            northCode = new int[room];
            southCode = new int[room];
            byNorth = new Shelf(room);
            bySouth = new Shelf(room);
            for (int depth = 0; depth < MOST_SIDE; depth++) {
                ways[depth] = new Tally(room);
            }
        }

        // Doubled, so that all that an object makes as its TILES grow stays below twice the last.
        private static int roomFor(int rowsNeeded) {
            int enough = LEAST_ROOM;
            while (enough < rowsNeeded && enough < MOST_ROOM) {
                enough *= 2;
            }
            return enough;
        }

        void build(int rowWidth, boolean inRings) {
            width = rowWidth;
            closed = inRings;
            giveDigits();
            codes = power(digits, width);
            rows = 0;
            addRows(0, 0, 0, 0);
            byNorth.sort(northCode, rows, codes);
            bySouth.sort(southCode, rows, codes);
        }

        private void giveDigits() {
            Arrays.fill(digitOf, NONE);
            digits = 0;
            for (int t = 0; t < tiles.size; t++) {
                if (digitOf[tiles.south[t]] == NONE) {
                    digitOf[tiles.south[t]] = digits;
                    digits++;
                }
            }
        }

        private void addRows(int placed, int before, int northBefore, int southBefore) {
            if (placed >= width) {
                keepRow(before, northBefore, southBefore);
                return;
            }
            for (int t = 0; t < tiles.size; t++) {
                addRowsWith(t, placed, before, northBefore, southBefore);
            }
        }

        private void addRowsWith(int t, int placed, int before, int northBefore, int southBefore) {
            int after = before << TILE_BITS | t;
            int digit = digitOf[tiles.north[t]];
            // In a ring something lies above every row; elsewhere nothing does above the first.
            boolean underNothing = northBefore == NONE || digit == NONE;
            if (fitsInRow(t, placed, before, after) && !(closed && underNothing)) {
                int north = underNothing ? NONE : northBefore * digits + digit;
                int south = southBefore * digits + digitOf[tiles.south[t]];
                addRows(placed + 1, after, north, south);
            }
        }

        private boolean fitsInRow(int t, int placed, int before, int after) {
            if (placed > 0 && tiles.east[before & TILE_MASK] != tiles.west[t]) {
                return false;
            }
            if (!closed || placed + 1 < width) {
                return true;
            }
            int first = after >> TILE_BITS * (width - 1) & TILE_MASK;
            return tiles.east[t] == tiles.west[first];
        }

        private void keepRow(int tilesOfRow, int north, int south) {
            if (rows < room) {
                packed[rows] = tilesOfRow;
                northCode[rows] = north;
                southCode[rows] = south;
                rows++;
            }
        }

        long countOpen(int height) {
            aimAnywhere(height - 1);
            Tally below = ways[height - 1];
            long total = 0;
            for (int r = 0; r < rows; r++) {
                total += below.of[southCode[r]];
            }
            return total;
        }

        /** Each ring is counted at the code along its top, which is the one along its bottom, too. */
        long countRings(int height) {
            long total = 0;
            for (int code = 0; code < codes; code++) {
                if (byNorth.start[code] < byNorth.start[code + 1]) {
                    total += height == 1 ? countLoops(code) : countRingsFrom(code, height);
                }
            }
            return total;
        }

        private long countLoops(int code) {
            long total = 0;
            for (int i = byNorth.start[code]; i < byNorth.start[code + 1]; i++) {
                total += southCode[byNorth.row[i]] == code ? 1 : 0;
            }
            return total;
        }

        // The two uppermost rows are laid downwards and the others upwards: where many codes lie
        // within reach of one another, that looks at far fewer than going one way alone.
        private long countRingsFrom(int code, int height) {
            aimAt(code, height - 2);
            Tally rest = ways[height - 2];
            Tally under = ways[MOST_SIDE - 1];
            under.clear();
            for (int i = byNorth.start[code]; i < byNorth.start[code + 1]; i++) {
                under.add(southCode[byNorth.row[i]], 1);
            }
            long total = 0;
            for (int j = 0; j < under.size; j++) {
                int second = under.codes[j];
                long below = 0;
                for (int i = byNorth.start[second]; i < byNorth.start[second + 1]; i++) {
                    below += rest.of[southCode[byNorth.row[i]]];
                }
                total += under.of[second] * below;
            }
            return total;
        }

        long countAroundMiddle(int t) {
            aimAnywhere(1);
            Tally below = ways[1];
            long total = 0;
            for (int r = 0; r < rows; r++) {
                int north = northCode[r];
                if (tileAt(r, 1) == t && north != NONE) {
                    int above = bySouth.start[north + 1] - bySouth.start[north];
                    total += above * below.of[southCode[r]];
                }
            }
            return total;
        }

        int firstTileAt(int height, int x, int y) {
            int r = closed ? firstRingRow(height) : firstOpenRow(height);
            if (r == NONE) {
                return NONE;
            }
            if (closed) {
                aimAt(northCode[r], height - 1);
            }
            for (int j = 1; j <= y && r != NONE; j++) {
                r = firstBelow(southCode[r], height - 1 - j);
            }
            return r == NONE ? NONE : tileAt(r, x);
        }

        private int firstOpenRow(int height) {
            aimAnywhere(height - 1);
            for (int r = 0; r < rows; r++) {
                if (ways[height - 1].of[southCode[r]] > 0) {
                    return r;
                }
            }
            return NONE;
        }

        /** The first row that is the top of a ring; a code is looked at where its first row comes. */
        int firstRingRow(int height) {
            int best = rows;
            for (int r = 0; r < best; r++) {
                int code = northCode[r];
                if (byNorth.row[byNorth.start[code]] == r) {
                    aimAt(code, height - 1);
                    int found = firstBelow(code, height - 1);
                    best = found == NONE ? best : Math.min(best, found);
                }
            }
            return best < rows ? best : NONE;
        }

        private int firstBelow(int code, int rowsLeft) {
            for (int i = byNorth.start[code]; i < byNorth.start[code + 1]; i++) {
                int r = byNorth.row[i];
                if (ways[rowsLeft].of[southCode[r]] > 0) {
                    return r;
                }
            }
            return NONE;
        }

        private int tileAt(int r, int x) {
            return packed[r] >> TILE_BITS * (width - 1 - x) & TILE_MASK;
        }

        private void aimAnywhere(int depth) {
            ways[0].clear();
            for (int code = 0; code < codes; code++) {
                ways[0].add(code, 1);
            }
            climb(depth);
        }

        private void aimAt(int code, int depth) {
            ways[0].clear();
            ways[0].add(code, 1);
            climb(depth);
        }

        private void climb(int depth) {
            for (int d = 0; d < depth; d++) {
                Tally from = ways[d];
                Tally to = ways[d + 1];
                to.clear();
                for (int j = 0; j < from.size; j++) {
                    int code = from.codes[j];
                    for (int i = bySouth.start[code]; i < bySouth.start[code + 1]; i++) {
                        int north = northCode[bySouth.row[i]];
                        if (north != NONE) {
                            to.add(north, from.of[code]);
                        }
                    }
                }
            }
        }
    }

    /** Rows sorted by a code: row[start[c]] .. row[start[c + 1] - 1] have c, the least row first. */
    private static final class Shelf {
        final int[] start;
        final int[] row;

        Shelf(int room) {
            start = new int[room + 1];
            row = new int[room];
        }

        void sort(int[] codeOf, int rows, int codes) {
            for (int c = 0; c < codes; c++) {
                start[c] = 0;
            }
            for (int r = 0; r < rows; r++) {
                if (codeOf[r] != NONE) {
                    start[codeOf[r]]++;
                }
            }
            int total = 0;
            for (int c = 0; c < codes; c++) {
                total += start[c];
                start[c] = total;
            }
            start[codes] = total;
            // start[c] is where c ends until its rows are put in, the last one first.
            for (int r = rows - 1; r >= 0; r--) {
                if (codeOf[r] != NONE) {
                    start[codeOf[r]]--;
                    row[start[codeOf[r]]] = r;
                }
            }
        }
    }

    /** A number for each code, with a list of the codes that have one: few do, most of the time. */
    private static final class Tally {
        final long[] of;
        final int[] codes;
        int size = 0;

        Tally(int room) {
            of = new long[room];
            codes = new int[room];
        }

        void clear() {
            for (int j = 0; j < size; j++) {
                of[codes[j]] = 0;
            }
            size = 0;
        }

        void add(int code, long more) {
            if (of[code] == 0) {
                codes[size] = code;
                size++;
            }
            of[code] += more;
        }
    }

    /** THE BOARD, the PIECES and the PLACEMENTS that they have on it. */
    private static final class Jigsaw {
        // A cell is the first one of at most one PLACEMENT for each way to turn and mirror a PIECE.
        private static final int MOST_WAYS = 8, QUARTERS = 4;

        int pieceCount = 0;
        int width = 1;
        int height = 1;
        int holes = 0;
        int version = 1;
        private boolean turns = true;
        private boolean mirrors = true;
        private int listedVersion = 0;
        private final int[] cellsOf = new int[MOST_PIECES];
        private final int[][] listed = new int[MOST_PIECES][MOST_CELLS * MOST_WAYS];
        private final int[][] listedCount = new int[MOST_PIECES][MOST_CELLS];
        private final int[] xs = new int[MOST_PIECE_CELLS];
        private final int[] ys = new int[MOST_PIECE_CELLS];

        static boolean hangsTogether(int cells) {
            int reached = Integer.lowestOneBit(cells);
            for (int step = 1; step < MOST_PIECE_CELLS; step++) {
                for (int bit = 0; bit < PIECE_SIDE * PIECE_SIDE; bit++) {
                    if ((reached >> bit & 1) != 0) {
                        reached |= neighbours(bit) & cells;
                    }
                }
            }
            return reached == cells;
        }

        private static int neighbours(int bit) {
            int x = bit % PIECE_SIDE;
            int around = 1 << bit + PIECE_SIDE;
            around |= bit >= PIECE_SIDE ? 1 << bit - PIECE_SIDE : 0;
            around |= x > 0 ? 1 << bit - 1 : 0;
            around |= x < PIECE_SIDE - 1 ? 1 << bit + 1 : 0;
            return around;
        }

        int add(int cells) {
            cellsOf[pieceCount] = cells;
            pieceCount++;
            version++;
            return pieceCount - 1;
        }

        int dropLast() {
            pieceCount--;
            version++;
            return pieceCount;
        }

        void setBoard(int newWidth, int newHeight, int newHoles) {
            width = newWidth;
            height = newHeight;
            holes = newHoles;
            version++;
        }

        boolean setTurns(boolean on) {
            boolean before = turns;
            turns = on;
            version++;
            return before;
        }

        boolean setMirrors(boolean on) {
            boolean before = mirrors;
            mirrors = on;
            version++;
            return before;
        }

        int pieceSize(int p) {
            return Integer.bitCount(cellsOf[p]);
        }

        int countPlacements(int p) {
            listPlacements();
            int total = 0;
            for (int cell = 0; cell < MOST_CELLS; cell++) {
                total += listedCount[p][cell];
            }
            return total;
        }

        int countPlacementsFrom(int p, int cell) {
            return listedCount[p][cell];
        }

        /** PLACEMENT i of those of p whose first cell is this one, the least number first. */
        int placementFrom(int p, int cell, int i) {
            return listed[p][cell * MOST_WAYS + i];
        }

        void listPlacements() {
            if (listedVersion == version) {
                return;
            }
            listedVersion = version;
            for (int p = 0; p < pieceCount; p++) {
                Arrays.fill(listedCount[p], 0);
                for (int quarters = 0; quarters < (turns ? QUARTERS : 1); quarters++) {
                    listWay(p, false, quarters);
                    if (mirrors) {
                        listWay(p, true, quarters);
                    }
                }
            }
        }

        private void listWay(int p, boolean mirrored, int quarters) {
            int size = spreadCells(cellsOf[p], mirrored, quarters);
            int mostX = 0;
            int mostY = 0;
            for (int i = 0; i < size; i++) {
                mostX = Math.max(mostX, xs[i]);
                mostY = Math.max(mostY, ys[i]);
            }
            for (int y = 0; y + mostY < height; y++) {
                for (int x = 0; x + mostX < width; x++) {
                    int cells = cellsFrom(size, x, y);
                    if ((cells & holes) == 0) {
                        listInOrder(p, cells);
                    }
                }
            }
        }

        /** Puts the cells into xs and ys, turned, and moved as far west and north as can be. */
        private int spreadCells(int cells, boolean mirrored, int quarters) {
            int last = PIECE_SIDE - 1;
            int size = 0;
            int leastX = last;
            int leastY = last;
            for (int bit = 0; bit < PIECE_SIDE * PIECE_SIDE && size < MOST_PIECE_CELLS; bit++) {
                if ((cells >> bit & 1) != 0) {
                    int x = mirrored ? last - bit % PIECE_SIDE : bit % PIECE_SIDE;
                    int y = bit / PIECE_SIDE;
                    for (int q = 0; q < quarters; q++) {
                        int turnedX = last - y;
                        y = x;
                        x = turnedX;
                    }
                    xs[size] = x;
                    ys[size] = y;
                    size++;
                    leastX = Math.min(leastX, x);
                    leastY = Math.min(leastY, y);
                }
            }
            for (int i = 0; i < size; i++) {
                xs[i] -= leastX;
                ys[i] -= leastY;
            }
            return size;
        }

        private int cellsFrom(int size, int x, int y) {
            int cells = 0;
            for (int i = 0; i < size; i++) {
                cells |= 1 << width * (y + ys[i]) + x + xs[i];
            }
            return cells;
        }

        private void listInOrder(int p, int cells) {
            int cell = Integer.numberOfTrailingZeros(cells);
            if (cell >= MOST_CELLS || listedCount[p][cell] >= MOST_WAYS) {
                return;
            }
            int[] list = listed[p];
            int start = cell * MOST_WAYS;
            int end = start + listedCount[p][cell];
            int at = start;
            while (at < end && list[at] < cells) {
                at++;
            }
            if (at < end && list[at] == cells) {
                return;
            }
            for (int i = end; i > at; i--) {
                list[i] = list[i - 1];
            }
            list[at] = cells;
            listedCount[p][cell]++;
        }
    }

    /**
     * COVERS, from the first free cell on. What the cells that are left can become depends on them
     * and on the PIECES used alone, so it is kept for the next time, told as one number: how many
     * COVERS, and in the last five bits the fewest PLACEMENTS; 0 if there is none.
     */
    private static final class CoverSearch {
        private static final int FEWEST_BITS = 5, FEWEST_MASK = 31;
        private static final long NO_COVER = 0, DONE = 1L << FEWEST_BITS;
        // No board with six PIECES asks for more than some 6,000 answers. One that finds its place
        // taken drives the other out: that costs time, never a wrong answer.
        private static final int PLACE_BITS = 14;
        private static final long SCATTER = 0x9E3779B97F4A7C15L;

        private final Jigsaw jigsaw;
        private final long[] keys = new long[1 << PLACE_BITS];
        private final long[] answers = new long[1 << PLACE_BITS];
        private final int[] areas = new int[1 << MOST_PIECES];
        private final int[] areasWithin = new int[1 << MOST_PIECES];
        private int mode = EACH_ONCE;
        private int everyCell = 0;
        private int everyPiece = 0;
        int foundPiece = 0;
        int foundCells = 0;

        CoverSearch(Jigsaw jigsaw) {
            this.jigsaw = jigsaw;
        }

        void prepare(int newMode) {
            jigsaw.listPlacements();
            mode = newMode;
            everyCell = (1 << jigsaw.width * jigsaw.height) - 1;
            everyPiece = (1 << jigsaw.pieceCount) - 1;
            addUpAreas();
        }

        /** For each set of PIECES its area, and as bits the areas of all sets within it. */
        private void addUpAreas() {
            areas[0] = 0;
            areasWithin[0] = 1;
            for (int set = 1; set <= everyPiece; set++) {
                int rest = set & set - 1;
                int size = jigsaw.pieceSize(Integer.numberOfTrailingZeros(set));
                areas[set] = areas[rest] + size;
                areasWithin[set] = areasWithin[rest] | areasWithin[rest] << size;
            }
        }

        long countCovers() {
            return solve(jigsaw.holes, 0, 0) >>> FEWEST_BITS;
        }

        int fewestPlacements() {
            long answer = solve(jigsaw.holes, 0, 0);
            return answer == NO_COVER ? NONE : (int) (answer & FEWEST_MASK);
        }

        /** Finds what of THE LEAST COVER lies on a cell: foundPiece and foundCells. */
        boolean findLeastOn(int cell) {
            int filled = jigsaw.holes;
            int used = 0;
            if ((filled >> cell & 1) != 0) {
                return false;
            }
            for (int depth = 1; depth <= MOST_CELLS && (filled >> cell & 1) == 0; depth++) {
                if (!chooseLeast(filled, used, depth)) {
                    return false;
                }
                filled |= foundCells;
                used = usedWith(used, foundPiece);
            }
            return true;
        }

        private boolean chooseLeast(int filled, int used, int depth) {
            int cell = Integer.numberOfTrailingZeros(~filled);
            for (int p = 0; p < jigsaw.pieceCount; p++) {
                int ways = (used >> p & 1) != 0 ? 0 : jigsaw.countPlacementsFrom(p, cell);
                for (int i = 0; i < ways; i++) {
                    int cells = jigsaw.placementFrom(p, cell, i);
                    boolean free = (cells & filled) == 0;
                    if (free && solve(filled | cells, usedWith(used, p), depth) != NO_COVER) {
                        foundPiece = p;
                        foundCells = cells;
                        return true;
                    }
                }
            }
            return false;
        }

        private int usedWith(int used, int p) {
            return mode == ANY_OFTEN ? used : used | 1 << p;
        }

        private long solve(int filled, int used, int depth) {
            if (filled == everyCell) {
                return mode == EACH_ONCE && used != everyPiece ? NO_COVER : DONE;
            }
            if (depth > MOST_CELLS || !areaFits(filled, used)) {
                return NO_COVER;
            }
            long key = ((long) jigsaw.version * 3 + mode) << MOST_CELLS + MOST_PIECES
                    | (long) used << MOST_CELLS | filled;
            int place = (int) (key * SCATTER >>> 64 - PLACE_BITS);
            if (keys[place] != key) {
                long answer = tryEach(filled, used, depth);
                keys[place] = key;
                answers[place] = answer;
            }
            return answers[place];
        }

        private long tryEach(int filled, int used, int depth) {
            int cell = Integer.numberOfTrailingZeros(~filled);
            long total = 0;
            int fewest = FEWEST_MASK;
            for (int p = 0; p < jigsaw.pieceCount; p++) {
                int ways = (used >> p & 1) != 0 ? 0 : jigsaw.countPlacementsFrom(p, cell);
                for (int i = 0; i < ways; i++) {
                    int cells = jigsaw.placementFrom(p, cell, i);
                    if ((cells & filled) == 0) {
                        long answer = solve(filled | cells, usedWith(used, p), depth + 1);
                        total += answer >>> FEWEST_BITS;
                        int placements = 1 + (int) (answer & FEWEST_MASK);
                        fewest = answer == NO_COVER ? fewest : Math.min(fewest, placements);
                    }
                }
            }
            return total == 0 ? NO_COVER : total << FEWEST_BITS | fewest;
        }

        // Only spares time: COVERS that cannot come out even are not looked for.
        private boolean areaFits(int filled, int used) {
            int left = Integer.bitCount(everyCell & ~filled);
            int unused = everyPiece & ~used;
            switch (mode) {
                case EACH_ONCE: return areas[unused] == left;
                case ONCE_AT_MOST: return (areasWithin[unused] >> left & 1) != 0;
                default: return true;
            }
        }
    }

    /** The LETTERS and their BLOCKS. */
    private static final class Blocks {
        // What is in a GROWN LETTER is told by a square table of n rows, and its power k is full
        // everywhere for some k up to (n - 1) (n - 1) + 1 or for none (Wielandt).
        private static final int MOST_MIXING = (MOST_LETTERS - 1) * (MOST_LETTERS - 1) + 1;

        int letterCount = 1;
        int side = LEAST_BLOCK_SIDE;
        private final int[][] image = new int[MOST_LETTERS][MOST_BLOCK_SIDE * MOST_BLOCK_SIDE];
        private final long[] counts = new long[MOST_LETTERS];
        private final long[] nextCounts = new long[MOST_LETTERS];
        private final int[] inGrown = new int[MOST_LETTERS];
        private final int[] inNextGrown = new int[MOST_LETTERS];

        void reset(int newCount, int newSide) {
            letterCount = newCount;
            side = newSide;
            for (int l = 0; l < MOST_LETTERS; l++) {
                Arrays.fill(image[l], 0);
            }
        }

        int replace(int l, int x, int y, int m) {
            int before = at(l, x, y);
            image[l][side * y + x] = m;
            return before;
        }

        int at(int l, int x, int y) {
            return image[l][side * y + x];
        }

        int lettersIn(int l) {
            int set = 0;
            for (int i = 0; i < side * side; i++) {
                set |= 1 << image[l][i];
            }
            return set;
        }

        int grownAt(int l, int k, int x, int y) {
            int here = l;
            int restX = x;
            int restY = y;
            int size = power(side, k);
            for (int step = 0; step < k && side > 1 && size >= side; step++) {
                size /= side;
                here = at(here, restX / size, restY / size);
                restX %= size;
                restY %= size;
            }
            return here;
        }

        long countGrown(int l, int k, int m) {
            Arrays.fill(counts, 0);
            counts[m] = 1;
            for (int step = 0; step < k; step++) {
                for (int from = 0; from < letterCount; from++) {
                    nextCounts[from] = 0;
                    for (int i = 0; i < side * side; i++) {
                        nextCounts[from] += counts[image[from][i]];
                    }
                }
                System.arraycopy(nextCounts, 0, counts, 0, MOST_LETTERS);
            }
            return counts[l];
        }

        int firstMixed() {
            for (int l = 0; l < letterCount; l++) {
                inGrown[l] = 1 << l;
            }
            for (int k = 1; k <= MOST_MIXING; k++) {
                int inAll = (1 << letterCount) - 1;
                for (int l = 0; l < letterCount; l++) {
                    inNextGrown[l] = 0;
                    for (int i = 0; i < side * side; i++) {
                        inNextGrown[l] |= inGrown[image[l][i]];
                    }
                    inAll &= inNextGrown[l];
                }
                if (inAll == (1 << letterCount) - 1) {
                    return k;
                }
                System.arraycopy(inNextGrown, 0, inGrown, 0, MOST_LETTERS);
            }
            return NONE;
        }
    }

    /** Which LETTERS, pairs and squares are in GROWN(l, k), for one k after the other. */
    private static final class Growth {
        // A pair comes from a pair or from a LETTER, so the shortest way from a LETTER to a pair
        // goes through none of the LETTERS and pairs twice.
        private static final int MOST_STEPS = MOST_LETTERS + MOST_LETTERS * MOST_LETTERS;
        private static final int ALL_SQUARES = 1296, WORD = 64, WORDS = 21;

        private final Blocks blocks;
        private int lettersNow = 0;
        private long eastNow = 0;
        private long southNow = 0;
        private final long[] squaresNow = new long[WORDS];
        private final long[] squaresNext = new long[WORDS];

        Growth(Blocks blocks) {
            this.blocks = blocks;
        }

        void begin(int l) {
            lettersNow = 1 << l;
            eastNow = 0;
            southNow = 0;
            Arrays.fill(squaresNow, 0);
        }

        int firstBeside(int i, int m, int way) {
            for (int k = 1; k <= MOST_STEPS; k++) {
                growPairs();
                if (((way == EAST ? eastNow : southNow) & pair(i, m)) != 0) {
                    return k;
                }
            }
            return NONE;
        }

        int countSquares(int k) {
            for (int step = 0; step < k; step++) {
                growSquares();
                growPairs();
            }
            int total = 0;
            for (int word = 0; word < WORDS; word++) {
                total += Long.bitCount(squaresNow[word]);
            }
            return total;
        }

        private void growPairs() {
            int letters = 0;
            long east = 0;
            long south = 0;
            for (int i = 0; i < blocks.letterCount; i++) {
                if ((lettersNow >> i & 1) != 0) {
                    letters |= blocks.lettersIn(i);
                    east |= eastInside(i);
                    south |= southInside(i);
                }
                for (int m = 0; m < blocks.letterCount; m++) {
                    east |= (eastNow & pair(i, m)) != 0 ? eastAcross(i, m) : 0;
                    south |= (southNow & pair(i, m)) != 0 ? southAcross(i, m) : 0;
                }
            }
            lettersNow = letters;
            eastNow = east;
            southNow = south;
        }

        /** Uses the pairs of the same k, so it comes before growPairs. */
        private void growSquares() {
            Arrays.fill(squaresNext, 0);
            for (int i = 0; i < blocks.letterCount; i++) {
                if ((lettersNow >> i & 1) != 0) {
                    addSquaresInside(i);
                }
                for (int m = 0; m < blocks.letterCount; m++) {
                    if ((eastNow & pair(i, m)) != 0) {
                        addSquaresOnEastBorder(i, m);
                    }
                    if ((southNow & pair(i, m)) != 0) {
                        addSquaresOnSouthBorder(i, m);
                    }
                }
            }
            for (int square = 0; square < ALL_SQUARES; square++) {
                if ((squaresNow[square / WORD] >> square % WORD & 1) != 0) {
                    addSquareOnCrossing(square);
                }
            }
            System.arraycopy(squaresNext, 0, squaresNow, 0, WORDS);
        }

        private static long pair(int i, int m) {
            return 1L << MOST_LETTERS * i + m;
        }

        private long eastInside(int l) {
            long pairs = 0;
            for (int y = 0; y < blocks.side; y++) {
                for (int x = 1; x < blocks.side; x++) {
                    pairs |= pair(blocks.at(l, x - 1, y), blocks.at(l, x, y));
                }
            }
            return pairs;
        }

        private long southInside(int l) {
            long pairs = 0;
            for (int y = 1; y < blocks.side; y++) {
                for (int x = 0; x < blocks.side; x++) {
                    pairs |= pair(blocks.at(l, x, y - 1), blocks.at(l, x, y));
                }
            }
            return pairs;
        }

        private long eastAcross(int i, int m) {
            long pairs = 0;
            for (int y = 0; y < blocks.side; y++) {
                pairs |= pair(blocks.at(i, blocks.side - 1, y), blocks.at(m, 0, y));
            }
            return pairs;
        }

        private long southAcross(int i, int m) {
            long pairs = 0;
            for (int x = 0; x < blocks.side; x++) {
                pairs |= pair(blocks.at(i, x, blocks.side - 1), blocks.at(m, x, 0));
            }
            return pairs;
        }

        private void addSquaresInside(int l) {
            for (int y = 1; y < blocks.side; y++) {
                for (int x = 1; x < blocks.side; x++) {
                    addSquare(blocks.at(l, x - 1, y - 1), blocks.at(l, x, y - 1),
                            blocks.at(l, x - 1, y), blocks.at(l, x, y));
                }
            }
        }

        private void addSquaresOnEastBorder(int i, int m) {
            int last = blocks.side - 1;
            for (int y = 1; y < blocks.side; y++) {
                addSquare(blocks.at(i, last, y - 1), blocks.at(m, 0, y - 1),
                        blocks.at(i, last, y), blocks.at(m, 0, y));
            }
        }

        private void addSquaresOnSouthBorder(int i, int m) {
            int last = blocks.side - 1;
            for (int x = 1; x < blocks.side; x++) {
                addSquare(blocks.at(i, x - 1, last), blocks.at(i, x, last),
                        blocks.at(m, x - 1, 0), blocks.at(m, x, 0));
            }
        }

        private void addSquareOnCrossing(int square) {
            int last = blocks.side - 1;
            int northWest = square / 216;
            int northEast = square / 36 % MOST_LETTERS;
            int southWest = square / MOST_LETTERS % MOST_LETTERS;
            int southEast = square % MOST_LETTERS;
            addSquare(blocks.at(northWest, last, last), blocks.at(northEast, 0, last),
                    blocks.at(southWest, last, 0), blocks.at(southEast, 0, 0));
        }

        private void addSquare(int northWest, int northEast, int southWest, int southEast) {
            int north = MOST_LETTERS * northWest + northEast;
            int square = MOST_LETTERS * (MOST_LETTERS * north + southWest) + southEast;
            squaresNext[square / WORD] |= 1L << square % WORD;
        }
    }

    /** The CORNERS, THE TURN and the ROUNDS, which are found one after the other in their order. */
    private static final class CornerSet {
        int size = 0;
        int sum = 1;
        int foundLength = 0;
        final int[] row = new int[MOST_TURN];
        private final int[] sizes = new int[MOST_CORNERS];
        private int sizeBits = 0;
        private boolean bothWays = false;
        private int wanted = NONE;
        private int found = 0;

        boolean has(int cornerSize) {
            return (sizeBits >> cornerSize & 1) != 0;
        }

        int add(int cornerSize) {
            sizes[size] = cornerSize;
            sizeBits |= 1 << cornerSize;
            size++;
            return size;
        }

        int dropLast() {
            size--;
            sizeBits &= ~(1 << sizes[size]);
            return size;
        }

        int countRows(boolean mirrored) {
            search(mirrored, NONE);
            return found;
        }

        /** Leaves the row in row[0] .. row[foundLength - 1]. */
        boolean findRow(boolean mirrored, int number) {
            return search(mirrored, number);
        }

        private boolean search(boolean mirrored, int number) {
            bothWays = mirrored;
            wanted = number;
            found = 0;
            return extend(0, 1, sum);
        }

        // The row so far begins with its least turned form as long as no size is smaller than the
        // one a period before it; whole periods at the end make it the least one of its ring. (The
        // algorithm of Fredricksen, Kessler and Maiorana for necklaces.)
        private boolean extend(int length, int period, int left) {
            if (left == 0) {
                return isWanted(length, period);
            }
            if (length >= MOST_TURN) {
                return false;
            }
            for (int next = leastNext(length, period); next <= left; next++) {
                if (has(next) && extendBy(next, length, period, left)) {
                    return true;
                }
            }
            return false;
        }

        private boolean extendBy(int next, int length, int period, int left) {
            boolean goesOn = length >= period && next == row[length - period];
            row[length] = next;
            return extend(length + 1, goesOn ? period : length + 1, left - next);
        }

        private int leastNext(int length, int period) {
            return length < period ? 1 : row[length - period];
        }

        private boolean isWanted(int length, int period) {
            boolean whole = period > 0 && length % period == 0;
            if (!whole || bothWays && !comesFirstBackwards(length)) {
                return false;
            }
            foundLength = length;
            found++;
            return found - 1 == wanted;
        }

        private boolean comesFirstBackwards(int length) {
            for (int start = 0; start < length; start++) {
                if (compareBackwards(length, start) > 0) {
                    return false;
                }
            }
            return true;
        }

        private int compareBackwards(int length, int start) {
            for (int i = 0; i < length; i++) {
                int other = row[start >= i ? start - i : start - i + length];
                if (row[i] != other) {
                    return Integer.compare(row[i], other);
                }
            }
            return 0;
        }
    }
}
