/** Each promise of the document by its number: ordinary inputs, the edges, and wrong inputs. */
public final class PromiseTest {
    private static final int NONE = TileRules.NONE, BAD = TileRules.BAD;
    private static final int FULL = TileRules.FULL, THERE = TileRules.THERE;
    private static final int[] WILD = {Integer.MIN_VALUE, -3, -2, 1000, Integer.MAX_VALUE};

    private static int checks = 0;
    private static int wrong = 0;
    private static int promise = 0;

    private static void due(String call, long got, long want) {
        checks++;
        if (got != want) {
            wrong++;
            System.out.println("promise " + promise + ": " + call + " answered " + got + ", due is " + want);
        }
    }

    public static void main(String[] args) {
        constants();
        newObject();
        tile();
        untile();
        fillings();
        fillingsInProducts();
        laid();
        repeats();
        radius();
        middle();
        piece();
        unpiece();
        board();
        may();
        placements();
        covers();
        cover();
        coverThatLeadsToOne();
        fewest();
        letters();
        block();
        letter();
        many();
        beside();
        mixes();
        squares();
        turn();
        corner();
        uncorner();
        rounds();
        round();
        count();
        System.out.println("PromiseTest: " + checks + " checks, " + wrong + " wrong");
        if (wrong != 0) {
            System.exit(1);
        }
    }

    private static void constants() {
        due("NONE", NONE, -1);
        due("BAD", BAD, -2);
        due("FULL", FULL, -3);
        due("THERE", THERE, -4);
    }

    private static void newObject() {
        promise = 1;
        TileRules x = new TileRules();
        int[] counts = {0, 0, 0, 1, 1, 1};
        for (int what = 0; what < counts.length; what++) {
            due("count(" + what + ")", x.count(what), counts[what]);
        }
        due("fillings(1, 1, false)", x.fillings(1, 1, false), 0);
        due("fillings(4, 4, true)", x.fillings(4, 4, true), 0);
        due("covers(0)", x.covers(0), 0);
        due("covers(1)", x.covers(1), 0);
        due("covers(2)", x.covers(2), 0);
        due("fewest(1)", x.fewest(1), NONE);
        due("cover(1, 0, 0, 0)", x.cover(1, 0, 0, 0), NONE);
        due("rounds(false)", x.rounds(false), 0);
        due("letter(0, 1, 1, 1)", x.letter(0, 1, 1, 1), 0);
        due("letter(0, 1, 2, 1)", x.letter(0, 1, 2, 1), BAD);
        due("many(0, 18, 0)", x.many(0, 18, 0), 68719476736L);
        due("mixes()", x.mixes(), 1);
        due("piece(1)", x.piece(1), 0);
        due("placements(0)", x.placements(0), 1);
        due("covers(0)", x.covers(0), 1);
        due("may(0, true)", x.may(0, true), 1);
        due("may(1, true)", x.may(1, true), 1);
    }

    private static void tile() {
        promise = 2;
        TileRules x = new TileRules();
        for (int bad : new int[] {-1, 10, Integer.MIN_VALUE, Integer.MAX_VALUE}) {
            due("tile(" + bad + ", ..)", x.tile(bad, 0, 0, 0), BAD);
            due("tile(0, " + bad + ", ..)", x.tile(0, bad, 0, 0), BAD);
            due("tile(0, 0, " + bad + ", 0)", x.tile(0, 0, bad, 0), BAD);
            due("tile(0, 0, 0, " + bad + ")", x.tile(0, 0, 0, bad), BAD);
        }
        due("count(0)", x.count(0), 0);
        for (int t = 0; t < 8; t++) {
            due("tile(9, 0, 9, 1)", x.tile(9, 0, 9, 1), t);
        }
        due("tile(9, 0, 9, 1)", x.tile(9, 0, 9, 1), FULL);
        due("tile(9, 10, 9, 1)", x.tile(9, 10, 9, 1), BAD);
        due("count(0)", x.count(0), 8);
        due("fillings(2, 1, false)", x.fillings(2, 1, false), 0);
        due("fillings(1, 2, false)", x.fillings(1, 2, false), 64);
        due("fillings(1, 2, true)", x.fillings(1, 2, true), 0);
    }

    private static void untile() {
        promise = 3;
        TileRules x = new TileRules();
        due("untile()", x.untile(), NONE);
        x.tile(0, 0, 0, 0);
        x.tile(1, 1, 1, 1);
        due("untile()", x.untile(), 1);
        due("fillings(1, 1, true)", x.fillings(1, 1, true), 1);
        due("tile(2, 1, 1, 1)", x.tile(2, 1, 1, 1), 1);
        due("fillings(1, 1, true)", x.fillings(1, 1, true), 1);
        due("untile()", x.untile(), 1);
        due("untile()", x.untile(), 0);
        due("untile()", x.untile(), NONE);
        due("count(0)", x.count(0), 0);
    }

    private static void fillings() {
        promise = 4;
        TileRules x = new TileRules();
        for (int t = 0; t < 8; t++) {
            x.tile(3, 4, 3, 4);
        }
        long power = 1;
        for (int cells = 1; cells <= 16; cells++) {
            power *= 8;
            for (int w = 1; w <= 4; w++) {
                if (cells % w == 0 && cells / w <= 4) {
                    due("fillings(" + w + ", " + cells / w + ", false)", x.fillings(w, cells / w, false), power);
                    due("fillings(" + w + ", " + cells / w + ", true)", x.fillings(w, cells / w, true), power);
                }
            }
        }
        for (int bad : new int[] {0, 5, -1, Integer.MIN_VALUE, Integer.MAX_VALUE}) {
            due("fillings(" + bad + ", 1, true)", x.fillings(bad, 1, true), BAD);
            due("fillings(1, " + bad + ", false)", x.fillings(1, bad, false), BAD);
        }
        TileRules y = new TileRules();
        y.tile(0, 1, 0, 2);
        due("fillings(1, 4, false)", y.fillings(1, 4, false), 1);
        due("fillings(1, 4, true)", y.fillings(1, 4, true), 0);
        due("fillings(2, 1, false)", y.fillings(2, 1, false), 0);
        y.tile(5, 2, 6, 1);
        due("fillings(4, 1, false)", y.fillings(4, 1, false), 2);
        due("fillings(4, 1, true)", y.fillings(4, 1, true), 0);
        due("fillings(1, 1, false)", y.fillings(1, 1, false), 2);
    }

    /** With one colour in the east and west, the columns are free of one another. */
    private static void fillingsInProducts() {
        int[][] vertical = {
            {0, 0, 0, 1, 0, 2, 1, 0, 1, 1, 1, 2, 2, 0, 2, 1},
            {0, 1, 1, 0, 0, 2, 2, 3, 3, 1, 1, 3, 3, 2, 2, 0},
            {0, 1, 1, 2, 2, 3, 3, 4, 4, 5, 5, 6, 6, 7, 7, 0},
            {0, 0, 0, 0, 0, 1, 1, 0, 1, 1, 1, 0, 0, 1, 1, 1},
        };
        for (int[] arrows : vertical) {
            TileRules x = new TileRules();
            TileRules turned = new TileRules();
            for (int t = 0; t < 8; t++) {
                x.tile(arrows[2 * t], 7, arrows[2 * t + 1], 7);
                turned.tile(7, arrows[2 * t + 1], 7, arrows[2 * t]);
            }
            for (int h = 1; h <= 4; h++) {
                long open = walks(arrows, h, false);
                long closed = walks(arrows, h, true);
                long opens = 1;
                long closeds = 1;
                for (int w = 1; w <= 4; w++) {
                    opens *= open;
                    closeds *= closed;
                    due("fillings(" + w + ", " + h + ", false)", x.fillings(w, h, false), opens);
                    due("fillings(" + w + ", " + h + ", true)", x.fillings(w, h, true), closeds);
                    due("turned fillings(" + h + ", " + w + ", false)", turned.fillings(h, w, false), opens);
                    due("turned fillings(" + h + ", " + w + ", true)", turned.fillings(h, w, true), closeds);
                }
            }
        }
    }

    private static long walks(int[] arrows, int length, boolean closed) {
        long total = 0;
        long all = 1;
        for (int i = 0; i < length; i++) {
            all *= 8;
        }
        for (long code = 0; code < all; code++) {
            int first = (int) (code & 7);
            int last = (int) (code >> 3 * (length - 1) & 7);
            boolean fits = !closed || arrows[2 * last + 1] == arrows[2 * first];
            for (int i = 1; i < length && fits; i++) {
                int above = (int) (code >> 3 * (i - 1) & 7);
                int below = (int) (code >> 3 * i & 7);
                fits = arrows[2 * above + 1] == arrows[2 * below];
            }
            total += fits ? 1 : 0;
        }
        return total;
    }

    private static void laid() {
        promise = 5;
        TileRules x = new TileRules();
        due("laid(1, 1, false, 0, 0)", x.laid(1, 1, false, 0, 0), NONE);
        // 0 and 1 lie in turns, like the squares of a chessboard
        x.tile(0, 1, 1, 0);
        x.tile(1, 0, 0, 1);
        for (int i = 0; i < 16; i++) {
            int want = (i % 4 + i / 4) % 2;
            String at = i % 4 + ", " + i / 4 + ")";
            due("laid(4, 4, false, " + at, x.laid(4, 4, false, i % 4, i / 4), want);
            due("laid(4, 4, true, " + at, x.laid(4, 4, true, i % 4, i / 4), want);
        }
        due("laid(1, 1, true, 0, 0)", x.laid(1, 1, true, 0, 0), NONE);
        due("laid(3, 2, true, 0, 0)", x.laid(3, 2, true, 0, 0), NONE);
        due("laid(3, 2, false, 2, 1)", x.laid(3, 2, false, 2, 1), 1);
        laidWhereTheFirstTileLeadsNowhere();
        due("laid(0, 1, true, 0, 0)", x.laid(0, 1, true, 0, 0), BAD);
        due("laid(1, 5, true, 0, 0)", x.laid(1, 5, true, 0, 0), BAD);
        due("laid(2, 3, true, 2, 0)", x.laid(2, 3, true, 2, 0), BAD);
        due("laid(2, 3, true, 0, 3)", x.laid(2, 3, true, 0, 3), BAD);
        due("laid(2, 3, false, -1, 0)", x.laid(2, 3, false, -1, 0), BAD);
        due("laid(2, 3, false, 0, -1)", x.laid(2, 3, false, 0, -1), BAD);
        for (int bad : WILD) {
            due("laid(" + bad + ", ..)", x.laid(bad, bad, true, 0, 0), BAD);
            due("laid(4, 4, true, " + bad + ", ..)", x.laid(4, 4, true, bad, 0), BAD);
            due("laid(4, 4, true, 0, " + bad + ")", x.laid(4, 4, true, 0, bad), BAD);
        }
    }

    private static void laidWhereTheFirstTileLeadsNowhere() {
        TileRules x = new TileRules();
        x.tile(0, 1, 1, 0);
        x.tile(2, 2, 2, 1);
        due("laid(2, 2, false, 0, 0)", x.laid(2, 2, false, 0, 0), NONE);
        x.tile(2, 2, 2, 2);
        due("laid(1, 1, false, 0, 0)", x.laid(1, 1, false, 0, 0), 0);
        due("laid(2, 1, false, 1, 0)", x.laid(2, 1, false, 1, 0), 1);
        for (int y = 0; y < 2; y++) {
            due("laid(2, 2, false, 0, " + y + ")", x.laid(2, 2, false, 0, y), 1);
            due("laid(2, 2, false, 1, " + y + ")", x.laid(2, 2, false, 1, y), 2);
            due("laid(2, 2, true, 0, " + y + ")", x.laid(2, 2, true, 0, y), 2);
            due("laid(2, 2, true, 1, " + y + ")", x.laid(2, 2, true, 1, y), 2);
        }
    }

    private static void repeats() {
        promise = 6;
        TileRules x = new TileRules();
        due("repeats()", x.repeats(), NONE);
        x.tile(0, 1, 0, 2);
        due("repeats()", x.repeats(), NONE);
        x.tile(0, 2, 0, 1);
        due("repeats()", x.repeats(), 21);
        x.tile(3, 3, 4, 3);
        x.tile(4, 3, 3, 3);
        due("repeats()", x.repeats(), 12);
        x.tile(5, 6, 5, 6);
        due("repeats()", x.repeats(), 11);
        // 2 times 2, and then 1 times 4 with the same area
        TileRules y = new TileRules();
        y.tile(4, 1, 5, 0);
        y.tile(6, 0, 7, 1);
        y.tile(5, 3, 4, 2);
        due("repeats()", y.repeats(), NONE);
        y.tile(7, 2, 6, 3);
        due("repeats()", y.repeats(), 22);
        y.tile(0, 9, 1, 9);
        y.tile(1, 9, 2, 9);
        y.tile(2, 9, 3, 9);
        due("repeats()", y.repeats(), 22);
        y.tile(3, 9, 0, 9);
        due("repeats()", y.repeats(), 14);
        // a ring of five is beyond the bounds
        TileRules z = new TileRules();
        for (int i = 0; i < 5; i++) {
            z.tile(0, (i + 1) % 5, 0, i);
        }
        due("repeats()", z.repeats(), NONE);
        due("radius()", z.radius(), NONE);
    }

    private static void radius() {
        promise = 7;
        TileRules x = new TileRules();
        due("radius()", x.radius(), 1);
        for (int i = 0; i < 3; i++) {
            x.tile(0, i + 1, 0, i);
            due("radius()", x.radius(), i + 2);
        }
        x.tile(0, 4, 0, 3);
        due("radius()", x.radius(), NONE);
    }

    private static void middle() {
        promise = 8;
        TileRules x = new TileRules();
        due("middle(0)", x.middle(0), BAD);
        x.tile(0, 0, 0, 0);
        due("middle(0)", x.middle(0), 1);
        due("middle(1)", x.middle(1), BAD);
        x.tile(0, 0, 0, 0);
        due("middle(1)", x.middle(1), 256);
        // may lie below the other two, but nothing may lie below it
        x.tile(0, 0, 1, 0);
        due("middle(2)", x.middle(2), 0);
        due("middle(0)", x.middle(0), 4 * 8 * 27);
        for (int bad : new int[] {-1, 3, 7, 8, Integer.MIN_VALUE, Integer.MAX_VALUE}) {
            due("middle(" + bad + ")", x.middle(bad), BAD);
        }
        TileRules y = new TileRules();
        for (int t = 0; t < 8; t++) {
            y.tile(0, 0, 0, 0);
        }
        due("middle(7)", y.middle(7), 16777216);
        // three columns that fit in one order alone
        TileRules z = new TileRules();
        z.tile(0, 1, 0, 0);
        z.tile(0, 2, 0, 1);
        z.tile(0, 3, 0, 2);
        long[] want = {0, 1, 0};
        for (int t = 0; t < 3; t++) {
            due("middle(" + t + ")", z.middle(t), want[t]);
        }
    }

    private static void piece() {
        promise = 9;
        TileRules x = new TileRules();
        int[] bad = {0, -1, Integer.MIN_VALUE, 1 << 25, Integer.MAX_VALUE, 5, 65, 48, 49, 63, 1 | 1 << 24,
            (1 << 25) + 1, 0b11111_00000_00001};
        for (int cells : bad) {
            due("piece(" + cells + ")", x.piece(cells), BAD);
        }
        due("count(1)", x.count(1), 0);
        int[] good = {1082401, 31, 1 << 24, 0b11000_11000_00000_00000_00000, 0b00010_00111_00010, 3};
        for (int p = 0; p < good.length; p++) {
            due("piece(" + good[p] + ")", x.piece(good[p]), p);
        }
        due("piece(1)", x.piece(1), FULL);
        due("piece(5)", x.piece(5), BAD);
        due("count(1)", x.count(1), 6);
    }

    private static void unpiece() {
        promise = 10;
        TileRules x = new TileRules();
        due("unpiece()", x.unpiece(), NONE);
        x.piece(1);
        x.piece(3);
        x.board(2, 1, 0);
        due("covers(1)", x.covers(1), 2);
        due("unpiece()", x.unpiece(), 1);
        due("covers(1)", x.covers(1), 1);
        due("placements(1)", x.placements(1), BAD);
        due("unpiece()", x.unpiece(), 0);
        due("covers(1)", x.covers(1), 0);
        due("unpiece()", x.unpiece(), NONE);
        due("piece(3)", x.piece(3), 0);
    }

    private static void board() {
        promise = 11;
        TileRules x = new TileRules();
        due("board(5, 4, 0)", x.board(5, 4, 0), 20);
        due("board(5, 4, 1048575)", x.board(5, 4, 1048575), 0);
        due("board(3, 2, 33)", x.board(3, 2, 33), 4);
        int[][] bad = {{0, 1, 0}, {6, 1, 0}, {1, 0, 0}, {1, 5, 0}, {4, 5, 0}, {3, 2, 64}, {3, 2, -1},
            {5, 4, 1048576}, {1, 1, 2}, {-1, 1, 0}, {1, Integer.MAX_VALUE, 0}, {Integer.MIN_VALUE, 1, 0},
            {5, 4, Integer.MIN_VALUE}, {5, 4, Integer.MAX_VALUE}};
        for (int[] b : bad) {
            due("board(" + b[0] + ", " + b[1] + ", " + b[2] + ")", x.board(b[0], b[1], b[2]), BAD);
        }
        due("count(4)", x.count(4), 6);
        x.piece(1);
        due("placements(0)", x.placements(0), 4);
        due("cover(1, 2, 1, 0)", x.cover(1, 2, 1, 0), NONE);
        due("cover(1, 1, 1, 1)", x.cover(1, 1, 1, 1), 16);
    }

    private static void may() {
        promise = 12;
        TileRules x = new TileRules();
        for (int bad : new int[] {-1, 2, Integer.MIN_VALUE, Integer.MAX_VALUE}) {
            due("may(" + bad + ", false)", x.may(bad, false), BAD);
        }
        due("may(0, false)", x.may(0, false), 1);
        due("may(0, false)", x.may(0, false), 0);
        due("may(1, true)", x.may(1, true), 1);
        due("may(1, false)", x.may(1, false), 1);
        due("may(1, true)", x.may(1, true), 0);
        due("may(0, true)", x.may(0, true), 0);
        due("may(0, true)", x.may(0, true), 1);
        x.piece(3);
        x.board(2, 2, 0);
        due("placements(0)", x.placements(0), 4);
        x.may(0, false);
        due("placements(0)", x.placements(0), 2);
        due("covers(1)", x.covers(1), 1);
        x.may(0, true);
        due("covers(1)", x.covers(1), 2);
    }

    private static void placements() {
        promise = 13;
        TileRules x = new TileRules();
        x.piece(35);
        due("placements(0)", x.placements(0), 0);
        // turns and mirrors, turns, mirrors, none; without a hole, with one at each cell
        int[][] want = {{4, 1, 1, 1, 1}, {4, 1, 1, 1, 1}, {2, 0, 0, 1, 1}, {1, 0, 0, 0, 1}};
        for (int way = 0; way < 4; way++) {
            x.may(0, way < 2);
            x.may(1, way % 2 == 0);
            for (int hole = 0; hole < 5; hole++) {
                x.board(2, 2, hole == 0 ? 0 : 1 << hole - 1);
                due("way " + way + ", hole " + hole + ": placements(0)", x.placements(0), want[way][hole]);
            }
        }
        TileRules y = new TileRules();
        y.piece(1082401);
        y.piece(0b01000_11100_01000);
        y.piece(0b00001_01111);
        y.piece(1 << 24);
        y.board(5, 4, 0);
        int[] each = {4, 6, 4 * 6 + 4 * 4, 20};
        for (int p = 0; p < each.length; p++) {
            due("placements(" + p + ")", y.placements(p), each[p]);
        }
        for (int bad : new int[] {-1, 4, 6, Integer.MIN_VALUE, Integer.MAX_VALUE}) {
            due("placements(" + bad + ")", y.placements(bad), BAD);
        }
        due("new placements(0)", new TileRules().placements(0), BAD);
    }

    private static void covers() {
        promise = 14;
        TileRules x = new TileRules();
        x.board(2, 2, 15);
        due("covers(0)", x.covers(0), 1);
        due("covers(1)", x.covers(1), 1);
        due("covers(2)", x.covers(2), 1);
        x.piece(3);
        due("covers(0)", x.covers(0), 0);
        due("covers(1)", x.covers(1), 1);
        due("covers(2)", x.covers(2), 1);
        int[][] dominoes = {{2, 2, 2}, {4, 4, 36}, {5, 4, 95}, {3, 3, 0}, {5, 2, 8}, {1, 4, 1}, {3, 4, 11}};
        for (int[] d : dominoes) {
            x.board(d[0], d[1], 0);
            due(d[0] + " times " + d[1] + ": covers(1)", x.covers(1), d[2]);
        }
        x.board(2, 2, 0);
        due("covers(0)", x.covers(0), 0);
        x.piece(33);
        due("covers(0)", x.covers(0), 4);
        due("covers(1)", x.covers(1), 8);
        due("covers(2)", x.covers(2), 4);
        x.piece(96);
        due("covers(0)", x.covers(0), 0);
        due("covers(1)", x.covers(1), 18);
        due("covers(2)", x.covers(2), 12);
        for (int bad : new int[] {-1, 3, Integer.MIN_VALUE, Integer.MAX_VALUE}) {
            due("covers(" + bad + ")", x.covers(bad), BAD);
        }
        TileRules y = new TileRules();
        for (int p = 0; p < 6; p++) {
            y.piece(1 << p);
        }
        y.board(5, 4, 0);
        due("covers(1)", y.covers(1), 3656158440062976L);
        due("covers(0)", y.covers(0), 0);
        y.board(3, 2, 0);
        due("covers(0)", y.covers(0), 720);
        y.board(2, 2, 0);
        due("covers(0)", y.covers(0), 0);
        due("covers(2)", y.covers(2), 360);
    }

    private static void cover() {
        promise = 15;
        TileRules x = new TileRules();
        x.piece(3);
        x.board(2, 2, 0);
        due("cover(1, 0, 0, 1)", x.cover(1, 0, 0, 1), 3);
        due("cover(1, 1, 1, 1)", x.cover(1, 1, 1, 1), 12);
        due("cover(1, 1, 1, 0)", x.cover(1, 1, 1, 0), 0);
        due("cover(0, 1, 1, 0)", x.cover(0, 1, 1, 0), NONE);
        x.piece(33);
        due("cover(2, 0, 0, 0)", x.cover(2, 0, 0, 0), 0);
        due("cover(2, 0, 1, 0)", x.cover(2, 0, 1, 0), 1);
        due("cover(2, 0, 1, 1)", x.cover(2, 0, 1, 1), 12);
        due("cover(0, 0, 1, 0)", x.cover(0, 0, 1, 0), 1);
        x.board(3, 2, 2);
        due("cover(1, 0, 0, 1)", x.cover(1, 0, 0, 1), NONE);
        x.piece(1);
        due("cover(1, 1, 0, 1)", x.cover(1, 1, 0, 1), NONE);
        due("cover(1, 0, 0, 1)", x.cover(1, 0, 0, 1), 1 | 8);
        due("cover(1, 2, 0, 1)", x.cover(1, 2, 0, 1), 4 | 32);
        due("cover(1, 1, 1, 0)", x.cover(1, 1, 1, 0), 2);
        due("cover(1, 1, 1, 1)", x.cover(1, 1, 1, 1), 16);
        int[][] bad = {{-1, 0, 0, 0}, {3, 0, 0, 0}, {1, -1, 0, 0}, {1, 3, 0, 0}, {1, 0, -1, 0}, {1, 0, 2, 0},
            {1, 0, 0, -1}, {1, 0, 0, 2}, {1, 1, 0, 2}, {Integer.MAX_VALUE, 0, 0, 0}, {1, Integer.MIN_VALUE, 0, 0},
            {1, 0, Integer.MAX_VALUE, 0}, {1, 0, 0, Integer.MIN_VALUE}};
        for (int[] b : bad) {
            due("cover(" + b[0] + ", " + b[1] + ", " + b[2] + ", " + b[3] + ")", x.cover(b[0], b[1], b[2], b[3]), BAD);
        }
        x.board(1, 1, 1);
        due("cover(1, 0, 0, 0)", x.cover(1, 0, 0, 0), NONE);
    }

    private static void coverThatLeadsToOne() {
        TileRules x = new TileRules();
        x.piece(7);
        x.piece(3);
        x.board(4, 1, 0);
        due("cover(1, 0, 0, 0)", x.cover(1, 0, 0, 0), 1);
        due("cover(1, 3, 0, 1)", x.cover(1, 3, 0, 1), 12);
        due("cover(2, 3, 0, 1)", x.cover(2, 3, 0, 1), NONE);
        x.board(5, 1, 0);
        due("cover(1, 0, 0, 0)", x.cover(1, 0, 0, 0), 0);
        due("cover(1, 4, 0, 0)", x.cover(1, 4, 0, 0), 1);
        // the least piece first, whatever the numbers of the cells are
        TileRules y = new TileRules();
        y.may(0, false);
        y.piece(33);
        y.piece(3);
        y.board(2, 2, 0);
        due("cover(1, 0, 0, 1)", y.cover(1, 0, 0, 1), 5);
        due("cover(1, 1, 0, 1)", y.cover(1, 1, 0, 1), 10);
        due("cover(2, 1, 0, 1)", y.cover(2, 1, 0, 1), NONE);
    }

    private static void fewest() {
        promise = 16;
        TileRules x = new TileRules();
        x.board(2, 2, 15);
        for (int mode = 0; mode <= 2; mode++) {
            due("fewest(" + mode + ")", x.fewest(mode), 0);
        }
        x.piece(1);
        due("fewest(0)", x.fewest(0), NONE);
        due("fewest(1)", x.fewest(1), 0);
        due("fewest(2)", x.fewest(2), 0);
        x.board(5, 4, 0);
        due("fewest(1)", x.fewest(1), 20);
        due("fewest(2)", x.fewest(2), NONE);
        x.piece(7);
        due("fewest(1)", x.fewest(1), 8);
        x.piece(31);
        due("fewest(1)", x.fewest(1), 4);
        x.board(3, 2, 0);
        x.piece(3);
        x.piece(35);
        due("fewest(0)", x.fewest(0), NONE);
        due("fewest(1)", x.fewest(1), 2);
        due("fewest(2)", x.fewest(2), 3);
        x.unpiece();
        due("fewest(2)", x.fewest(2), 3);
        for (int bad : new int[] {-1, 3, Integer.MIN_VALUE, Integer.MAX_VALUE}) {
            due("fewest(" + bad + ")", x.fewest(bad), BAD);
        }
    }

    private static void letters() {
        promise = 17;
        TileRules x = new TileRules();
        for (int[] bad : new int[][] {{0, 2}, {7, 2}, {1, 1}, {1, 4}, {-1, 3}, {Integer.MAX_VALUE, 2},
            {2, Integer.MIN_VALUE}}) {
            due("letters(" + bad[0] + ", " + bad[1] + ")", x.letters(bad[0], bad[1]), BAD);
        }
        due("letters(6, 3)", x.letters(6, 3), 1);
        due("block(5, 2, 2, 5)", x.block(5, 2, 2, 5), 0);
        due("letters(7, 3)", x.letters(7, 3), BAD);
        due("letter(5, 1, 2, 2)", x.letter(5, 1, 2, 2), 5);
        due("letters(6, 3)", x.letters(6, 3), 6);
        due("letter(5, 1, 2, 2)", x.letter(5, 1, 2, 2), 0);
        due("letters(2, 2)", x.letters(2, 2), 6);
        due("letter(1, 1, 2, 0)", x.letter(1, 1, 2, 0), BAD);
        due("count(3)", x.count(3), 2);
    }

    private static void block() {
        promise = 18;
        TileRules x = new TileRules();
        x.letters(3, 2);
        for (int[] bad : new int[][] {{-1, 0, 0, 0}, {3, 0, 0, 0}, {0, -1, 0, 0}, {0, 2, 0, 0}, {0, 0, -1, 0},
            {0, 0, 2, 0}, {0, 0, 0, -1}, {0, 0, 0, 3}, {Integer.MAX_VALUE, 0, 0, 0}, {0, Integer.MAX_VALUE, 0, 0},
            {0, 0, Integer.MIN_VALUE, 0}, {0, 0, 0, Integer.MIN_VALUE}}) {
            due("block(" + bad[0] + ", ..)", x.block(bad[0], bad[1], bad[2], bad[3]), BAD);
        }
        due("many(0, 1, 0)", x.many(0, 1, 0), 4);
        due("block(2, 1, 0, 1)", x.block(2, 1, 0, 1), 0);
        due("block(2, 1, 0, 2)", x.block(2, 1, 0, 2), 1);
        due("block(2, 0, 1, 1)", x.block(2, 0, 1, 1), 0);
        due("letter(2, 1, 1, 0)", x.letter(2, 1, 1, 0), 2);
        due("letter(2, 1, 0, 1)", x.letter(2, 1, 0, 1), 1);
        due("letter(2, 1, 0, 0)", x.letter(2, 1, 0, 0), 0);
    }

    private static void letter() {
        promise = 19;
        TileRules x = new TileRules();
        x.letters(2, 3);
        x.block(0, 1, 0, 1);
        x.block(1, 2, 1, 1);
        due("letter(1, 0, 0, 0)", x.letter(1, 0, 0, 0), 1);
        due("letter(1, 0, 1, 0)", x.letter(1, 0, 1, 0), BAD);
        // 0 holds 1 in the north alone, 1 holds 1 in the east alone
        due("letter(0, 2, 5, 1)", x.letter(0, 2, 5, 1), 1);
        due("letter(0, 2, 4, 1)", x.letter(0, 2, 4, 1), 0);
        due("letter(0, 2, 1, 0)", x.letter(0, 2, 1, 0), 1);
        due("letter(0, 12, 531440, 531440)", x.letter(0, 12, 531440, 531440), 0);
        due("letter(1, 12, 531440, 265720)", x.letter(1, 12, 531440, 265720), 1);
        due("letter(1, 12, 531440, 265721)", x.letter(1, 12, 531440, 265721), 0);
        for (int[] bad : new int[][] {{-1, 1, 0, 0}, {2, 1, 0, 0}, {0, -1, 0, 0}, {0, 13, 0, 0}, {0, 2, 9, 0},
            {0, 2, 0, 9}, {0, 2, -1, 0}, {0, 2, 0, -1}, {0, 12, 531441, 0}, {0, 12, 0, 531441},
            {0, Integer.MAX_VALUE, 0, 0}, {0, Integer.MIN_VALUE, 0, 0}, {0, 12, Integer.MAX_VALUE, 0},
            {0, 12, 0, Integer.MIN_VALUE}, {Integer.MAX_VALUE, 0, 0, 0}}) {
            due("letter(" + bad[0] + ", " + bad[1] + ", " + bad[2] + ", " + bad[3] + ")",
                    x.letter(bad[0], bad[1], bad[2], bad[3]), BAD);
        }
    }

    private static void many() {
        promise = 20;
        TileRules x = new TileRules();
        x.letters(2, 3);
        due("many(0, 18, 0)", x.many(0, 18, 0), 150094635296999121L);
        due("many(1, 0, 1)", x.many(1, 0, 1), 1);
        due("many(1, 0, 0)", x.many(1, 0, 0), 0);
        due("many(1, 1, 0)", x.many(1, 1, 0), 9);
        x.block(1, 0, 0, 1);
        due("many(1, 18, 1)", x.many(1, 18, 1), 1);
        due("many(1, 18, 0)", x.many(1, 18, 0), 150094635296999120L);
        for (int[] bad : new int[][] {{-1, 0, 0}, {2, 0, 0}, {0, -1, 0}, {0, 19, 0}, {0, 0, -1}, {0, 0, 2},
            {Integer.MIN_VALUE, 0, 0}, {0, Integer.MAX_VALUE, 0}, {0, 0, Integer.MAX_VALUE}}) {
            due("many(" + bad[0] + ", " + bad[1] + ", " + bad[2] + ")", x.many(bad[0], bad[1], bad[2]), BAD);
        }
    }

    private static void beside() {
        promise = 21;
        TileRules x = new TileRules();
        due("beside(0, 0, 0, 0)", x.beside(0, 0, 0, 0), 1);
        x.letters(3, 2);
        fill(x, 0, 2, 1);
        due("beside(0, 1, 1, 0)", x.beside(0, 1, 1, 0), 1);
        due("beside(0, 0, 0, 1)", x.beside(0, 0, 0, 1), 2);
        due("beside(1, 1, 1, 1)", x.beside(1, 1, 1, 1), 2);
        due("beside(0, 0, 1, 0)", x.beside(0, 0, 1, 0), NONE);
        due("beside(0, 2, 0, 0)", x.beside(0, 2, 0, 0), NONE);
        // east is not west, and south is not east
        x.letters(2, 2);
        x.block(0, 1, 0, 1);
        x.block(0, 1, 1, 1);
        fill(x, 1, 2, 1);
        due("beside(0, 0, 1, 0)", x.beside(0, 0, 1, 0), 1);
        due("beside(0, 1, 0, 0)", x.beside(0, 1, 0, 0), NONE);
        due("beside(0, 0, 0, 1)", x.beside(0, 0, 0, 1), 1);
        due("beside(0, 0, 1, 1)", x.beside(0, 0, 1, 1), NONE);
        due("beside(1, 0, 1, 0)", x.beside(1, 0, 1, 0), NONE);
        for (int[] bad : new int[][] {{-1, 0, 0, 0}, {2, 0, 0, 0}, {0, -1, 0, 0}, {0, 2, 0, 0}, {0, 0, -1, 0},
            {0, 0, 2, 0}, {0, 0, 0, -1}, {0, 0, 0, 2}, {Integer.MAX_VALUE, 0, 0, 0}, {0, Integer.MIN_VALUE, 0, 0},
            {0, 0, Integer.MAX_VALUE, 0}, {0, 0, 0, Integer.MIN_VALUE}}) {
            due("beside(" + bad[0] + ", ..)", x.beside(bad[0], bad[1], bad[2], bad[3]), BAD);
        }
    }

    private static void fill(TileRules x, int l, int a, int m) {
        for (int i = 0; i < a * a; i++) {
            x.block(l, i % a, i / a, m);
        }
    }

    private static void mixes() {
        promise = 22;
        TileRules x = new TileRules();
        x.letters(2, 2);
        due("mixes()", x.mixes(), NONE);
        fill(x, 0, 2, 1);
        due("mixes()", x.mixes(), NONE);
        x.block(0, 0, 0, 0);
        due("mixes()", x.mixes(), 2);
        x.block(1, 0, 0, 1);
        due("mixes()", x.mixes(), 1);
        // the slowest that mixes: a ring of six with one short cut
        x.letters(6, 2);
        for (int l = 0; l < 5; l++) {
            fill(x, l, 2, l + 1);
        }
        fill(x, 5, 2, 0);
        due("mixes()", x.mixes(), NONE);
        x.block(5, 1, 1, 1);
        due("mixes()", x.mixes(), 26);
    }

    private static void squares() {
        promise = 23;
        TileRules x = new TileRules();
        due("squares(0, 0)", x.squares(0, 0), 0);
        due("squares(0, 1)", x.squares(0, 1), 1);
        due("squares(0, 5)", x.squares(0, 5), 1);
        x.letters(2, 3);
        x.block(0, 0, 0, 1);
        due("squares(0, 1)", x.squares(0, 1), 2);
        due("squares(1, 1)", x.squares(1, 1), 1);
        // 1 alone at the north-west of each block, but for that of 1, so each turn of it comes
        due("squares(0, 2)", x.squares(0, 2), 5);
        for (int[] bad : new int[][] {{-1, 0}, {2, 0}, {0, -1}, {0, 6}, {Integer.MIN_VALUE, 0},
            {0, Integer.MAX_VALUE}}) {
            due("squares(" + bad[0] + ", " + bad[1] + ")", x.squares(bad[0], bad[1]), BAD);
        }
    }

    private static void turn() {
        promise = 24;
        TileRules x = new TileRules();
        for (int bad : new int[] {0, -1, 19, Integer.MIN_VALUE, Integer.MAX_VALUE}) {
            due("turn(" + bad + ")", x.turn(bad), BAD);
        }
        due("turn(18)", x.turn(18), 1);
        due("turn(19)", x.turn(19), BAD);
        due("turn(1)", x.turn(1), 18);
        due("count(5)", x.count(5), 1);
    }

    private static void corner() {
        promise = 25;
        TileRules x = new TileRules();
        for (int bad : new int[] {0, -1, 19, Integer.MIN_VALUE, Integer.MAX_VALUE}) {
            due("corner(" + bad + ")", x.corner(bad), BAD);
        }
        int[] sizes = {18, 1, 17, 2, 16, 3};
        for (int i = 0; i < 6; i++) {
            due("corner(" + sizes[i] + ")", x.corner(sizes[i]), i + 1);
            due("corner(" + sizes[i] + ")", x.corner(sizes[i]), THERE);
        }
        due("corner(18)", x.corner(18), THERE);
        due("corner(4)", x.corner(4), FULL);
        due("corner(0)", x.corner(0), BAD);
        due("count(2)", x.count(2), 6);
    }

    private static void uncorner() {
        promise = 26;
        TileRules x = new TileRules();
        due("uncorner()", x.uncorner(), NONE);
        x.corner(5);
        x.corner(1);
        due("uncorner()", x.uncorner(), 1);
        due("rounds(false)", x.rounds(false), 0);
        due("corner(5)", x.corner(5), THERE);
        due("corner(1)", x.corner(1), 2);
        due("rounds(false)", x.rounds(false), 1);
        due("uncorner()", x.uncorner(), 1);
        due("uncorner()", x.uncorner(), 0);
        due("uncorner()", x.uncorner(), NONE);
        due("corner(5)", x.corner(5), 1);
    }

    private static void rounds() {
        promise = 27;
        TileRules x = new TileRules();
        x.corner(1);
        due("rounds(true)", x.rounds(true), 1);
        x.turn(18);
        due("rounds(false)", x.rounds(false), 1);
        x.corner(18);
        due("rounds(false)", x.rounds(false), 2);
        x.uncorner();
        x.corner(3);
        x.corner(2);
        x.turn(6);
        due("rounds(false)", x.rounds(false), 9);
        due("rounds(true)", x.rounds(true), 8);
        x.turn(1);
        due("rounds(true)", x.rounds(true), 1);
        TileRules y = new TileRules();
        y.corner(4);
        y.corner(6);
        y.turn(17);
        due("rounds(false)", y.rounds(false), 0);
        due("rounds(true)", y.rounds(true), 0);
    }

    private static void round() {
        promise = 28;
        TileRules x = new TileRules();
        due("round(false, 0, -1)", x.round(false, 0, -1), NONE);
        x.corner(3);
        x.corner(1);
        x.corner(2);
        x.turn(6);
        int[][] rows = {{1, 1, 1, 1, 1, 1}, {1, 1, 1, 1, 2}, {1, 1, 1, 3}, {1, 1, 2, 2}, {1, 2, 1, 2}, {1, 2, 3},
            {1, 3, 2}, {2, 2, 2}, {3, 3}};
        for (int k = 0; k < rows.length; k++) {
            dueRow(x, false, k, rows[k]);
            if (k != 6) {
                dueRow(x, true, k < 6 ? k : k - 1, rows[k]);
            }
        }
        for (int bad : new int[] {-1, 9, Integer.MIN_VALUE, Integer.MAX_VALUE}) {
            due("round(false, " + bad + ", 0)", x.round(false, bad, 0), NONE);
            due("round(true, " + bad + ", -1)", x.round(true, bad, -1), NONE);
        }
        due("round(true, 8, 0)", x.round(true, 8, 0), NONE);
        for (int bad : WILD) {
            due("round(false, 0, " + bad + ")", x.round(false, 0, bad), NONE);
        }
    }

    private static void dueRow(TileRules x, boolean mirrored, int k, int[] row) {
        String call = "round(" + mirrored + ", " + k + ", ";
        due(call + "-1)", x.round(mirrored, k, -1), row.length);
        for (int i = 0; i < row.length; i++) {
            due(call + i + ")", x.round(mirrored, k, i), row[i]);
        }
        due(call + row.length + ")", x.round(mirrored, k, row.length), NONE);
    }

    private static void count() {
        promise = 29;
        TileRules x = new TileRules();
        x.tile(0, 0, 0, 0);
        x.tile(0, 0, 0, 0);
        x.piece(1);
        x.piece(1);
        x.piece(1);
        for (int size = 1; size <= 4; size++) {
            x.corner(size);
        }
        x.letters(5, 2);
        x.board(3, 4, 7);
        x.turn(17);
        int[] want = {2, 3, 4, 5, 12, 17};
        for (int what = 0; what < 6; what++) {
            due("count(" + what + ")", x.count(what), want[what]);
        }
        for (int bad : new int[] {-1, 6, Integer.MIN_VALUE, Integer.MAX_VALUE}) {
            due("count(" + bad + ")", x.count(bad), BAD);
        }
    }
}
