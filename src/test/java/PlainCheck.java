import java.util.ArrayList;
import java.util.HashSet;
import java.util.List;
import java.util.Random;
import java.util.Set;
import java.util.TreeSet;

/** The class beside plain programs that find the same by trying everything, on inputs by chance. */
public final class PlainCheck {
    private static int checks = 0;
    private static int wrong = 0;

    private static void due(String call, long got, long want) {
        checks++;
        if (got != want) {
            wrong++;
            System.out.println(call + " answered " + got + ", due is " + want);
        }
    }

    public static void main(String[] args) {
        Random chance = new Random(20261115);
        for (int round = 0; round < 150; round++) {
            checkTiles(chance);
        }
        checkEveryPiece();
        for (int round = 0; round < 150; round++) {
            checkPieces(chance);
        }
        for (int round = 0; round < 150; round++) {
            checkLetters(chance);
        }
        for (int round = 0; round < 60; round++) {
            checkCorners(chance);
        }
        System.out.println("PlainCheck: " + checks + " checks, " + wrong + " wrong");
        if (wrong != 0) {
            System.exit(1);
        }
    }

    // ---- tiles

    private static final long TOO_MANY = 300000;

    private static void checkTiles(Random chance) {
        int colours = 1 + chance.nextInt(5);
        int size = chance.nextInt(9);
        int[][] tiles = new int[size][4];
        TileRules x = new TileRules();
        StringBuilder told = new StringBuilder();
        for (int[] t : tiles) {
            for (int edge = 0; edge < 4; edge++) {
                t[edge] = chance.nextInt(colours) * (colours < 4 ? 3 : 2);
            }
            x.tile(t[0], t[1], t[2], t[3]);
            told.append("tile(").append(t[0]).append(t[1]).append(t[2]).append(t[3]).append(") ");
        }
        int repeats = -1;
        int radius = -1;
        for (int w = 1; w <= 4; w++) {
            for (int h = 1; h <= 4; h++) {
                for (int ring = 0; ring < 2; ring++) {
                    Fill fill = new Fill(tiles, w, h, ring == 1);
                    fill.run(0);
                    boolean counted = fill.found <= TOO_MANY;
                    String call = told + "fillings(" + w + ", " + h + ", " + (ring == 1) + ")";
                    if (counted) {
                        due(call, x.fillings(w, h, ring == 1), fill.found);
                    }
                    for (int i = 0; i < w * h; i++) {
                        due(call + " laid " + i, x.laid(w, h, ring == 1, i % w, i / w),
                                fill.first == null ? -1 : fill.first[i]);
                    }
                    if (ring == 1 && fill.found > 0 && isBefore(w, h, repeats)) {
                        repeats = 10 * w + h;
                    }
                    if (ring == 0 && w == h && fill.found == 0 && radius == -1) {
                        radius = w;
                    }
                    if (ring == 0 && w == 3 && h == 3 && counted) {
                        for (int t = 0; t < size; t++) {
                            due(told + "middle(" + t + ")", x.middle(t), fill.inMiddle[t]);
                        }
                    }
                }
            }
        }
        due(told + "repeats()", x.repeats(), repeats);
        due(told + "radius()", x.radius(), radius);
    }

    private static boolean isBefore(int w, int h, int other) {
        int otherArea = other / 10 * (other % 10);
        return other == -1 || w * h < otherArea || w * h == otherArea && w < other / 10;
    }

    private static final class Fill {
        final int[][] tiles;
        final int w;
        final int h;
        final boolean ring;
        final int[] at;
        final long[] inMiddle = new long[8];
        long found = 0;
        int[] first = null;

        Fill(int[][] tiles, int w, int h, boolean ring) {
            this.tiles = tiles;
            this.w = w;
            this.h = h;
            this.ring = ring;
            at = new int[w * h];
        }

        void run(int i) {
            if (found > TOO_MANY) {
                return;
            }
            if (i == w * h) {
                found++;
                first = first == null ? at.clone() : first;
                if (w == 3 && h == 3) {
                    inMiddle[at[4]]++;
                }
                return;
            }
            for (int t = 0; t < tiles.length; t++) {
                at[i] = t;
                if (fits(i)) {
                    run(i + 1);
                }
            }
        }

        boolean fits(int i) {
            int x = i % w;
            int y = i / w;
            int[] t = tiles[at[i]];
            return (x == 0 || tiles[at[i - 1]][1] == t[3])
                    && (y == 0 || tiles[at[i - w]][2] == t[0])
                    && (!ring || x < w - 1 || t[1] == tiles[at[y * w]][3])
                    && (!ring || y < h - 1 || t[2] == tiles[at[x]][0]);
        }
    }

    // ---- pieces

    private static void checkPieces(Random chance) {
        TileRules x = new TileRules();
        int count = chance.nextInt(7);
        List<Integer> pieces = new ArrayList<>();
        int most = 1 + chance.nextInt(5);
        for (int p = 0; p < count; p++) {
            int cells = anyPiece(chance, 1 + chance.nextInt(most));
            pieces.add(cells);
            due("piece(" + cells + ")", x.piece(cells), p);
        }
        for (int times = 0; times < 4; times++) {
            int w = 1 + chance.nextInt(5);
            int h = 1 + chance.nextInt(4);
            int holes = 0;
            for (int i = 0; i < w * h; i++) {
                holes |= chance.nextInt(4) == 0 && times % 2 == 0 ? 1 << i : 0;
            }
            boolean turns = chance.nextBoolean();
            boolean mirrors = chance.nextBoolean();
            x.board(w, h, holes);
            x.may(0, turns);
            x.may(1, mirrors);
            String told = pieces + " on " + w + ", " + h + ", " + holes + " " + turns + " " + mirrors + ": ";
            List<TreeSet<Integer>> places = new ArrayList<>();
            for (int p = 0; p < count; p++) {
                places.add(placesOf(pieces.get(p), w, h, holes, turns, mirrors));
                due(told + "placements(" + p + ")", x.placements(p), places.get(p).size());
            }
            for (int mode = 0; mode < 3; mode++) {
                checkCovers(x, told, places, mode, w * h, w, holes);
            }
        }
    }

    /** All numbers of up to six cells: which are pieces. */
    private static void checkEveryPiece() {
        TileRules x = new TileRules();
        int asked = 0;
        for (int cells = 0; cells < 1 << 25; cells++) {
            int size = Integer.bitCount(cells);
            if (size > 6) {
                continue;
            }
            boolean isPiece = size >= 1 && size <= 5 && reached(cells, Integer.numberOfTrailingZeros(cells)) == size;
            due("piece(" + cells + ")", x.piece(cells), isPiece ? 0 : -2);
            x.unpiece();
            asked += 2;
            if (asked >= 500) {
                x = new TileRules();
                asked = 0;
            }
        }
    }

    private static int reached(int cells, int from) {
        List<Integer> open = new ArrayList<>(List.of(from));
        for (int i = 0; i < open.size(); i++) {
            for (int bit = 0; bit < 25; bit++) {
                int steps = Math.abs(bit % 5 - open.get(i) % 5) + Math.abs(bit / 5 - open.get(i) / 5);
                if (steps == 1 && (cells >> bit & 1) != 0 && !open.contains(bit)) {
                    open.add(bit);
                }
            }
        }
        return open.size();
    }

    private static int anyPiece(Random chance, int size) {
        int cells = 1 << chance.nextInt(25);
        while (Integer.bitCount(cells) < size) {
            int bit = chance.nextInt(25);
            int east = bit % 5 < 4 ? 1 << bit + 1 : 0;
            int west = bit % 5 > 0 ? 1 << bit - 1 : 0;
            int south = bit < 20 ? 1 << bit + 5 : 0;
            int north = bit > 4 ? 1 << bit - 5 : 0;
            if ((cells & (east | west | south | north)) != 0) {
                cells |= 1 << bit;
            }
        }
        return cells;
    }

    private static TreeSet<Integer> placesOf(int cells, int w, int h, int holes, boolean turns, boolean mirrors) {
        TreeSet<Integer> places = new TreeSet<>();
        for (int way = 0; way < 8; way++) {
            if (way % 4 != 0 && !turns || way >= 4 && !mirrors) {
                continue;
            }
            for (int dy = -9; dy <= 9; dy++) {
                for (int dx = -9; dx <= 9; dx++) {
                    int mask = moved(cells, way, dx, dy, w, h);
                    if (mask != 0 && (mask & holes) == 0) {
                        places.add(mask);
                    }
                }
            }
        }
        return places;
    }

    private static int moved(int cells, int way, int dx, int dy, int w, int h) {
        int mask = 0;
        for (int bit = 0; bit < 25; bit++) {
            if ((cells >> bit & 1) == 0) {
                continue;
            }
            int x = way >= 4 ? -(bit % 5) : bit % 5;
            int y = bit / 5;
            for (int q = 0; q < way % 4; q++) {
                int before = x;
                x = -y;
                y = before;
            }
            x += dx;
            y += dy;
            if (x < 0 || x >= w || y < 0 || y >= h) {
                return 0;
            }
            mask |= 1 << w * y + x;
        }
        return mask;
    }

    private static void checkCovers(TileRules x, String told, List<TreeSet<Integer>> places, int mode, int cells,
            int w, int holes) {
        Cover cover = new Cover(places, mode, (1 << cells) - 1, cells);
        cover.run(holes, 0, 0);
        if (cover.found > TOO_MANY) {
            return;
        }
        due(told + "covers(" + mode + ")", x.covers(mode), cover.found);
        due(told + "fewest(" + mode + ")", x.fewest(mode), cover.found == 0 ? -1 : cover.fewest);
        for (int cell = 0; cell < cells; cell++) {
            boolean none = cover.found == 0 || (holes >> cell & 1) != 0;
            String call = told + "cover(" + mode + ", " + cell % w + ", " + cell / w + ", ";
            due(call + "0)", x.cover(mode, cell % w, cell / w, 0), none ? -1 : cover.leastPiece[cell]);
            due(call + "1)", x.cover(mode, cell % w, cell / w, 1), none ? -1 : cover.leastCells[cell]);
        }
    }

    /** Tries, at the first free cell, the pieces and their placements in order: the first is the least. */
    private static final class Cover {
        final List<TreeSet<Integer>> places;
        final int mode;
        final int all;
        final int[] piece;
        final int[] cells;
        int[] leastPiece = null;
        int[] leastCells = null;
        long found = 0;
        int fewest = 99;

        Cover(List<TreeSet<Integer>> places, int mode, int all, int size) {
            this.places = places;
            this.mode = mode;
            this.all = all;
            piece = new int[size];
            cells = new int[size];
        }

        void run(int filled, int used, int laid) {
            if (found > TOO_MANY) {
                return;
            }
            if (filled == all) {
                if (mode != 0 || Integer.bitCount(used) == places.size()) {
                    found++;
                    fewest = Math.min(fewest, laid);
                    leastPiece = leastPiece == null ? piece.clone() : leastPiece;
                    leastCells = leastCells == null ? cells.clone() : leastCells;
                }
                return;
            }
            int first = Integer.numberOfTrailingZeros(~filled);
            for (int p = 0; p < places.size(); p++) {
                if (mode != 1 && (used >> p & 1) != 0) {
                    continue;
                }
                for (int mask : places.get(p)) {
                    if ((mask >> first & 1) != 0 && (mask & filled) == 0) {
                        for (int cell = 0; cell < piece.length; cell++) {
                            if ((mask >> cell & 1) != 0) {
                                piece[cell] = p;
                                cells[cell] = mask;
                            }
                        }
                        run(filled | mask, used | 1 << p, laid + 1);
                    }
                }
            }
        }
    }

    // ---- letters

    private static void checkLetters(Random chance) {
        int n = 1 + chance.nextInt(6);
        int a = 2 + chance.nextInt(2);
        int zeros = chance.nextInt(4);
        int[][] blocks = new int[n][a * a];
        TileRules x = new TileRules();
        x.letters(n, a);
        StringBuilder told = new StringBuilder("letters(" + n + ", " + a + ")");
        boolean slow = chance.nextInt(3) == 0;
        for (int l = 0; l < n; l++) {
            int favourite = slow ? (l + 1) % n : chance.nextInt(n);
            told.append(' ');
            for (int i = 0; i < a * a; i++) {
                blocks[l][i] = chance.nextInt(slow ? 40 : 4) < (slow ? 39 : zeros) ? favourite : chance.nextInt(n);
                x.block(l, i % a, i / a, blocks[l][i]);
                told.append(blocks[l][i]);
            }
        }
        told.append(": ");
        int most = a == 2 ? 8 : 5;
        int[][] east = new int[n][n * n];
        int[][] south = new int[n][n * n];
        for (int l = 0; l < n; l++) {
            int[][] grown = {{l}};
            for (int k = 0; k <= most; k++) {
                checkGrown(x, told, chance, l, k, n, grown);
                notePairs(grown, k, n, east[l], south[l]);
                grown = grow(grown, blocks, a);
            }
            noteLaterPairs(grownPairs(l, blocks, a), most, east[l], south[l]);
            checkBeside(x, told, l, n, east[l], south[l]);
        }
        due(told + "mixes()", x.mixes(), mixes(blocks, n));
    }

    private static int[][] grow(int[][] grown, int[][] blocks, int a) {
        int[][] next = new int[grown.length * a][grown.length * a];
        for (int y = 0; y < next.length; y++) {
            for (int x = 0; x < next.length; x++) {
                next[y][x] = blocks[grown[y / a][x / a]][y % a * a + x % a];
            }
        }
        return next;
    }

    private static void checkGrown(TileRules x, StringBuilder told, Random chance, int l, int k, int n, int[][] grown) {
        long[] many = new long[n];
        Set<Integer> squares = new HashSet<>();
        for (int py = 0; py < grown.length; py++) {
            for (int px = 0; px < grown.length; px++) {
                many[grown[py][px]]++;
                if (px > 0 && py > 0) {
                    squares.add(grown[py - 1][px - 1] * 1000 + grown[py - 1][px] * 100 + grown[py][px - 1] * 10
                            + grown[py][px]);
                }
            }
        }
        for (int m = 0; m < n; m++) {
            due(told + "many(" + l + ", " + k + ", " + m + ")", x.many(l, k, m), many[m]);
        }
        if (k <= 5) {
            due(told + "squares(" + l + ", " + k + ")", x.squares(l, k), squares.size());
        }
        for (int i = 0; i < 20; i++) {
            int px = chance.nextInt(grown.length);
            int py = chance.nextInt(grown.length);
            due(told + "letter(" + l + ", " + k + ", " + px + ", " + py + ")", x.letter(l, k, px, py), grown[py][px]);
        }
        due(told + "letter(" + l + ", " + k + ") beyond", x.letter(l, k, grown.length, 0), -2);
    }

    private static void notePairs(int[][] grown, int k, int n, int[] east, int[] south) {
        for (int y = 0; y < grown.length; y++) {
            for (int x = 0; x < grown.length; x++) {
                int here = grown[y][x];
                if (x + 1 < grown.length && east[here * n + grown[y][x + 1]] == 0) {
                    east[here * n + grown[y][x + 1]] = k;
                }
                if (y + 1 < grown.length && south[here * n + grown[y + 1][x]] == 0) {
                    south[here * n + grown[y + 1][x]] = k;
                }
            }
        }
    }

    /** For k = 0 .. 99 the pairs of GROWN(l, k) as texts: 'e' or 's', then the two letters. */
    private static List<Set<String>> grownPairs(int l, int[][] blocks, int a) {
        List<Set<String>> pairs = new ArrayList<>();
        Set<Integer> letters = new HashSet<>(List.of(l));
        pairs.add(new HashSet<>());
        for (int k = 1; k < 100; k++) {
            Set<String> next = new HashSet<>();
            Set<Integer> nextLetters = new HashSet<>();
            for (int m : letters) {
                addPairs(grow(new int[][] {{m}}, blocks, a), next);
                for (int b : blocks[m]) {
                    nextLetters.add(b);
                }
            }
            for (String pair : pairs.get(k - 1)) {
                int[] first = blocks[pair.charAt(1) - '0'];
                int[] second = blocks[pair.charAt(2) - '0'];
                for (int i = 0; i < a; i++) {
                    boolean isEast = pair.charAt(0) == 'e';
                    int p = isEast ? first[i * a + a - 1] : first[(a - 1) * a + i];
                    int q = isEast ? second[i * a] : second[i];
                    next.add("" + pair.charAt(0) + p + q);
                }
            }
            pairs.add(next);
            letters = nextLetters;
        }
        return pairs;
    }

    private static void addPairs(int[][] grown, Set<String> pairs) {
        for (int y = 0; y < grown.length; y++) {
            for (int x = 0; x < grown.length; x++) {
                if (x + 1 < grown.length) {
                    pairs.add("e" + grown[y][x] + grown[y][x + 1]);
                }
                if (y + 1 < grown.length) {
                    pairs.add("s" + grown[y][x] + grown[y + 1][x]);
                }
            }
        }
    }

    /** The pairs that do not come in the small ones, by what the small ones become. */
    private static void noteLaterPairs(List<Set<String>> pairs, int most, int[] east, int[] south) {
        int n = (int) Math.sqrt(east.length);
        for (int k = most + 1; k < pairs.size(); k++) {
            for (String pair : pairs.get(k)) {
                int[] first = pair.charAt(0) == 'e' ? east : south;
                int at = (pair.charAt(1) - '0') * n + pair.charAt(2) - '0';
                first[at] = first[at] == 0 ? k : first[at];
            }
        }
    }

    private static void checkBeside(TileRules x, StringBuilder told, int l, int n, int[] east, int[] south) {
        for (int i = 0; i < n; i++) {
            for (int m = 0; m < n; m++) {
                for (int way = 0; way < 2; way++) {
                    int want = (way == 0 ? east : south)[i * n + m];
                    String call = told + "beside(" + l + ", " + i + ", " + m + ", " + way + ")";
                    due(call, x.beside(l, i, m, way), want == 0 ? -1 : want);
                }
            }
        }
    }

    private static int mixes(int[][] blocks, int n) {
        List<Set<Integer>> sets = new ArrayList<>();
        for (int l = 0; l < n; l++) {
            sets.add(Set.of(l));
        }
        for (int k = 1; k <= 200; k++) {
            boolean all = true;
            for (int l = 0; l < n; l++) {
                Set<Integer> next = new HashSet<>();
                for (int m : sets.get(l)) {
                    for (int b : blocks[m]) {
                        next.add(b);
                    }
                }
                sets.set(l, next);
                all &= next.size() == n;
            }
            if (all) {
                return k;
            }
        }
        return -1;
    }

    // ---- corners

    private static void checkCorners(Random chance) {
        TileRules x = new TileRules();
        List<Integer> sizes = new ArrayList<>();
        int most = 1 + chance.nextInt(18);
        for (int i = 0; i < 12; i++) {
            int size = 1 + chance.nextInt(most);
            int got = x.corner(size);
            due("corner(" + size + ")", got, sizes.contains(size) ? -4 : sizes.size() == 6 ? -3 : sizes.size() + 1);
            if (got > 0) {
                sizes.add(size);
            }
        }
        int turn = 1 + chance.nextInt(14);
        x.turn(turn);
        for (int mirrored = 0; mirrored < 2; mirrored++) {
            TreeSet<String> rounds = new TreeSet<>();
            collect("", turn, sizes, mirrored == 1, rounds);
            String told = sizes + " turn " + turn + " mirrored " + mirrored + ": ";
            due(told + "rounds", x.rounds(mirrored == 1), rounds.size());
            int k = 0;
            for (String row : rounds) {
                if (k < 60 || k > rounds.size() - 5) {
                    due(told + "round " + k, x.round(mirrored == 1, k, -1), row.length());
                    for (int i = 0; i < row.length(); i++) {
                        due(told + "round " + k + " at " + i, x.round(mirrored == 1, k, i), row.charAt(i) - 'a' + 1);
                    }
                    due(told + "round " + k + " beyond", x.round(mirrored == 1, k, row.length()), -1);
                }
                k++;
            }
            due(told + "no round " + k, x.round(mirrored == 1, k, -1), -1);
        }
    }

    /** Rows as texts, size 1 as 'a' and so on, so that the order of texts is that of the rows. */
    private static void collect(String row, int left, List<Integer> sizes, boolean mirrored, TreeSet<String> rounds) {
        if (left == 0) {
            String least = row;
            String backwards = new StringBuilder(row).reverse().toString();
            for (int i = 0; i < row.length(); i++) {
                String turned = row.substring(i) + row.substring(0, i);
                String turnedBack = backwards.substring(i) + backwards.substring(0, i);
                least = turned.compareTo(least) < 0 ? turned : least;
                least = mirrored && turnedBack.compareTo(least) < 0 ? turnedBack : least;
            }
            rounds.add(least);
            return;
        }
        for (int size : sizes) {
            if (size <= left) {
                collect(row + (char) ('a' + size - 1), left - size, sizes, mirrored, rounds);
            }
        }
    }
}
