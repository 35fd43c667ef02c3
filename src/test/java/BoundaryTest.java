import java.util.ArrayList;
import java.util.Arrays;
import java.util.HashSet;
import java.util.List;
import java.util.Set;

/**
 * Each sentence of the document that names a boundary case (too small, too large, empty, full, a
 * wrap-around, a refused call) with a test of its own. Whatever is refused is refused on a twin: the
 * one object gets the call, the other does not, and both must answer all that is asked then alike.
 */
public final class BoundaryTest {
    private static final int NONE = TileRules.NONE, BAD = TileRules.BAD;
    private static final int FULL = TileRules.FULL, THERE = TileRules.THERE;
    private static final int LEAST = Integer.MIN_VALUE, MOST = Integer.MAX_VALUE;
    private static final int MOST_CALLS = 512;

    private static int checks = 0;
    private static int wrong = 0;
    private static String sentence = "";
    private static final boolean[] told = new boolean[30];

    /** What is done with an object: a call of it, or many. */
    private interface Deed {
        long on(TileRules x);
    }

    private static void sentence(int promise, String words) {
        sentence = (promise == 0 ? "terms" : "promise " + promise) + ", '" + words + "'";
        told[promise] = true;
    }

    private static void due(String call, long got, long want) {
        checks++;
        if (got != want) {
            wrong++;
            System.out.println(sentence + ": " + call + " answered " + got + ", due is " + want);
        }
    }

    public static void main(String[] args) {
        terms();
        newObject();
        tiles();
        fillings();
        laid();
        repeats();
        radius();
        middle();
        pieces();
        board();
        may();
        placements();
        covers();
        cover();
        fewest();
        letters();
        block();
        letter();
        many();
        beside();
        mixes();
        squares();
        turn();
        corners();
        rounds();
        round();
        count();
        for (int promise = 0; promise < told.length; promise++) {
            due("sentences of promise " + promise, told[promise] ? 1 : 0, 1);
        }
        System.out.println("BoundaryTest: " + checks + " checks, " + wrong + " wrong");
        if (wrong != 0) {
            System.exit(1);
        }
    }

    // ---- what is refused changes nothing

    /** Refused on an object that is bare, on one that holds some of all, and on one that is full. */
    private static void refusedAnywhere(String call, Deed deed, long want) {
        refused("bare: " + call, x -> 0, deed, want);
        refused("some: " + call, BoundaryTest::some, deed, want);
        refused("full: " + call, BoundaryTest::full, deed, want);
    }

    private static void refused(String call, Deed build, Deed deed, long want) {
        TileRules asked = new TileRules();
        TileRules twin = new TileRules();
        build.on(asked);
        build.on(twin);
        due(call, deed.on(asked), want);
        List<Long> got = look(asked);
        List<Long> due = look(twin);
        int other = 0;
        for (int i = 0; i < due.size() && other == 0; i++) {
            other = got.get(i).equals(due.get(i)) ? 0 : i + 1;
        }
        due(call + ", the first answer that it changed", other, 0);
    }

    private static long some(TileRules x) {
        x.tile(1, 2, 1, 2);
        x.tile(1, 2, 3, 2);
        x.tile(3, 2, 1, 2);
        x.piece(3);
        x.piece(35);
        x.piece(1);
        x.board(3, 4, 1 << 4);
        x.may(0, false);
        x.letters(3, 2);
        x.block(0, 1, 0, 1);
        x.block(1, 0, 1, 2);
        x.block(2, 1, 1, 0);
        x.turn(9);
        x.corner(2);
        x.corner(3);
        x.corner(5);
        return 0;
    }

    private static long full(TileRules x) {
        for (int t = 0; t < 8; t++) {
            x.tile(t % 2, t / 2 % 2, t / 4, t / 2 % 2);
        }
        int[] cells = {31, 35, 99, 7, 3, 1};
        for (int p = 0; p < 6; p++) {
            x.piece(cells[p]);
        }
        x.board(5, 4, 1 << 19 | 1 << 7);
        x.may(1, false);
        x.letters(6, 3);
        for (int l = 0; l < 6; l++) {
            x.block(l, l % 3, l / 3, (l + 1) % 6);
            x.block(l, 2, 2, 5 - l);
        }
        x.turn(18);
        int[] sizes = {18, 9, 6, 5, 4, 2};
        for (int size : sizes) {
            x.corner(size);
        }
        return 0;
    }

    /** All that can be asked of an object, and then what it tells while it is taken apart. */
    private static List<Long> look(TileRules x) {
        List<Long> seen = new ArrayList<>();
        for (int what = 0; what < 6; what++) {
            seen.add((long) x.count(what));
        }
        lookAtTiles(x, seen);
        lookAtPieces(x, seen);
        lookAtLetters(x, seen);
        lookAtCorners(x, seen);
        due("calls to look at an object", seen.size() > MOST_CALLS - 60 ? seen.size() : 0, 0);
        return seen;
    }

    private static void lookAtTiles(TileRules x, List<Long> seen) {
        seen.add((long) x.repeats());
        seen.add((long) x.radius());
        for (int t = 0; t < 8; t++) {
            seen.add(x.middle(t));
        }
        for (int i = 0; i < 4; i++) {
            seen.add((long) x.laid(2, 2, false, i % 2, i / 2));
        }
        for (int t = 0; t < 9; t++) {
            seen.add(x.fillings(2, 1, false));
            seen.add(x.fillings(1, 2, false));
            seen.add(x.fillings(2, 2, true));
            seen.add((long) x.untile());
        }
    }

    private static void lookAtPieces(TileRules x, List<Long> seen) {
        for (int mode = 0; mode < 3; mode++) {
            seen.add(x.covers(mode));
            seen.add((long) x.fewest(mode));
        }
        for (int i = 0; i < 30; i++) {
            seen.add((long) x.cover(1, i % 6, i / 6, 1));
        }
        for (int what = 0; what < 2; what++) {
            seen.add((long) x.may(what, true));
        }
        for (int p = 0; p < 7; p++) {
            seen.add((long) x.placements(5 - p));
            seen.add((long) x.unpiece());
        }
        x.piece(1);
        seen.add((long) x.placements(0));
    }

    private static void lookAtLetters(TileRules x, List<Long> seen) {
        for (int l = 0; l < 6; l++) {
            for (int i = 0; i < 9; i++) {
                seen.add((long) x.letter(l, 1, i % 3, i / 3));
            }
            seen.add((long) x.letter(l, 12, 3000, 4000));
            seen.add(x.many(0, 18, l));
            seen.add((long) x.squares(l, 5));
            seen.add((long) x.beside(l, 0, 1, 0));
        }
        seen.add((long) x.mixes());
        seen.add((long) x.letters(1, 2));
    }

    private static void lookAtCorners(TileRules x, List<Long> seen) {
        for (int k = 0; k < 3; k++) {
            seen.add((long) x.round(true, k, -1));
            seen.add((long) x.round(false, k, 1));
        }
        seen.add((long) x.turn(18));
        for (int i = 0; i < 7; i++) {
            seen.add((long) x.rounds(false));
            seen.add((long) x.rounds(true));
            seen.add((long) x.uncorner());
        }
    }

    /** One number of a call after the other, the others being right, with each number that is wrong. */
    private interface Numbers {
        long call(TileRules x, int[] n);
    }

    private static void badNumbers(String name, Deed build, Numbers numbers, int[] right, int[][] bad) {
        due(name + ", wrong numbers for each", bad.length, right.length);
        for (int i = 0; i < right.length; i++) {
            for (int number : bad[i]) {
                int[] n = right.clone();
                n[i] = number;
                refused(name + Arrays.toString(n), build, x -> numbers.call(x, n), BAD);
            }
        }
    }

    private static int[] beyond(int least, int most) {
        return new int[] {least - 1, most + 1, LEAST, MOST};
    }

    // ---- terms

    private static void terms() {
        sentence(0, "BAD first; then what a call names, in the order named");
        refused("full: tile(0, 0, 0, 10)", BoundaryTest::full, x -> x.tile(0, 0, 0, 10), BAD);
        refused("full: piece(0)", BoundaryTest::full, x -> x.piece(0), BAD);
        refused("full: corner(19)", BoundaryTest::full, x -> x.corner(19), BAD);
        refused("full: corner(18)", BoundaryTest::full, x -> x.corner(18), THERE);
        refused("full: corner(1)", BoundaryTest::full, x -> x.corner(1), FULL);
        refused("bare: laid(2, 2, true, 2, 0)", x -> 0, x -> x.laid(2, 2, true, 2, 0), BAD);
        refused("bare: cover(0, 0, 0, 2)", x -> 0, x -> x.cover(0, 0, 0, 2), BAD);
        refused("bare: fewest(3)", x -> 0, x -> x.fewest(3), BAD);
        refused("some, a hole: cover(1, 1, 1, 2)", BoundaryTest::some, x -> x.cover(1, 1, 1, 2), BAD);
        sentence(0, "An object is used for at most 512 calls");
        TileRules x = new TileRules();
        for (int call = 1; call <= MOST_CALLS - 6; call += 2) {
            due("call " + call + ", tile", x.tile(call % 10, 4, 5, 4), 0);
            due("call " + (call + 1) + ", untile", x.untile(), 0);
        }
        due("call 507, board(5, 4, 0)", x.board(5, 4, 0), 20);
        due("call 508, piece(3)", x.piece(3), 0);
        due("call 509, covers(1)", x.covers(1), 95);
        due("call 510, tile(5, 4, 5, 4)", x.tile(5, 4, 5, 4), 0);
        due("call 511, fillings(4, 4, true)", x.fillings(4, 4, true), 1);
        due("call 512, fewest(1)", x.fewest(1), 10);
    }

    // ---- promise 1

    private static void newObject() {
        sentence(1, "No TILES, PIECES, CORNERS");
        for (int what = 0; what < 3; what++) {
            due("count(" + what + ")", new TileRules().count(what), 0);
        }
        due("untile()", new TileRules().untile(), NONE);
        due("unpiece()", new TileRules().unpiece(), NONE);
        due("uncorner()", new TileRules().uncorner(), NONE);
        due("tile(0, 0, 0, 0)", new TileRules().tile(0, 0, 0, 0), 0);
        due("piece(1)", new TileRules().piece(1), 0);
        due("corner(1)", new TileRules().corner(1), 1);
        sentence(1, "THE BOARD is 1 times 1 without HOLES");
        TileRules x = new TileRules();
        due("count(4)", x.count(4), 1);
        due("covers(0)", x.covers(0), 0);
        x.piece(1);
        due("covers(0)", x.covers(0), 1);
        due("cover(1, 0, 0, 1)", x.cover(1, 0, 0, 1), 1);
        due("cover(1, 1, 0, 1)", x.cover(1, 1, 0, 1), BAD);
        due("cover(1, 0, 1, 1)", x.cover(1, 0, 1, 1), BAD);
        sentence(1, "TURNS and MIRRORS are on");
        due("may(0, false)", x.may(0, false), 1);
        due("may(1, false)", x.may(1, false), 1);
        TileRules s = new TileRules();
        s.piece(102);
        s.board(3, 3, 0);
        due("placements(0)", s.placements(0), 8);
        sentence(1, "n = 1, a = 2, its BLOCK all 0");
        due("count(3)", x.count(3), 1);
        for (int i = 0; i < 4; i++) {
            due("letter(0, 1, " + i % 2 + ", " + i / 2 + ")", x.letter(0, 1, i % 2, i / 2), 0);
        }
        due("letter(0, 1, 2, 0)", x.letter(0, 1, 2, 0), BAD);
        due("letter(0, 1, 0, 2)", x.letter(0, 1, 0, 2), BAD);
        due("letter(1, 0, 0, 0)", x.letter(1, 0, 0, 0), BAD);
        due("letters(2, 2)", x.letters(2, 2), 1);
        sentence(1, "THE TURN is 1");
        due("count(5)", x.count(5), 1);
        x.corner(1);
        due("rounds(false)", x.rounds(false), 1);
        due("round(false, 0, -1)", x.round(false, 0, -1), 1);
        due("turn(2)", x.turn(2), 1);
        sentence(1, "A new object, whatever others hold");
        full(new TileRules());
        refused("a full one beside it", y -> 0, y -> full(new TileRules()), 0);
    }

    // ---- promises 2 and 3

    private static void tiles() {
        sentence(2, "a colour, 0 .. 9, at each edge");
        Numbers tile = (x, n) -> x.tile(n[0], n[1], n[2], n[3]);
        int[] wrongColours = beyond(0, 9);
        int[][] bad = {wrongColours, wrongColours, wrongColours, wrongColours};
        badNumbers("bare: tile", x -> 0, tile, new int[] {0, 0, 0, 0}, bad);
        badNumbers("some: tile", BoundaryTest::some, tile, new int[] {9, 9, 9, 9}, bad);
        badNumbers("full: tile", BoundaryTest::full, tile, new int[] {3, 0, 9, 5}, bad);
        TileRules edges = new TileRules();
        for (int i = 0; i < 8; i++) {
            int[] n = {0, 0, 0, 0};
            n[i / 2] = i % 2 == 0 ? 9 : 1;
            due("tile(" + n[0] + ", " + n[1] + ", " + n[2] + ", " + n[3] + ")",
                    edges.tile(n[0], n[1], n[2], n[3]), i);
        }
        sentence(2, "TILES 0 .. 7, FULL");
        for (int held = 0; held < 8; held++) {
            due("tile number " + held, withTiles(held).tile(9, 9, 9, 9), held);
        }
        refused("the ninth", y -> withTiles(y, 8), y -> y.tile(9, 9, 9, 9), FULL);
        refused("the ninth, like the first", y -> withTiles(y, 8), y -> y.tile(0, 0, 0, 0), FULL);
        refused("full: tile(5, 5, 5, 5)", BoundaryTest::full, y -> y.tile(5, 5, 5, 5), FULL);
        sentence(2, "FULL no longer when one went");
        TileRules again = withTiles(8);
        again.tile(9, 9, 9, 9);
        again.untile();
        due("tile(9, 9, 9, 9)", again.tile(9, 9, 9, 9), 7);
        due("tile(9, 9, 9, 9)", again.tile(9, 9, 9, 9), FULL);
        due("middle(7)", again.middle(7), 1);
        sentence(2, "Two may be alike");
        TileRules alike = new TileRules();
        due("tile(4, 4, 4, 4)", alike.tile(4, 4, 4, 4), 0);
        due("tile(4, 4, 4, 4)", alike.tile(4, 4, 4, 4), 1);
        due("fillings(1, 1, true)", alike.fillings(1, 1, true), 2);
        due("fillings(2, 2, true)", alike.fillings(2, 2, true), 16);
        untile();
    }

    private static void untile() {
        sentence(3, "NONE: there is none");
        refused("bare: untile()", y -> 0, TileRules::untile, NONE);
        refused("one came and went: untile()", y -> y.tile(1, 1, 1, 1) + y.untile(), TileRules::untile, NONE);
        sentence(3, "The last TILE goes: how many are left");
        TileRules x = withTiles(8);
        for (int left = 7; left >= 0; left--) {
            due("untile()", x.untile(), left);
            due("count(0)", x.count(0), left);
            due("fillings(4, 4, true)", x.fillings(4, 4, true), left);
            due("middle(" + left + ")", x.middle(left), BAD);
            due("middle(" + (left - 1) + ")", x.middle(left - 1), left == 0 ? BAD : 1);
        }
        due("untile()", x.untile(), NONE);
        due("tile(0, 0, 0, 0)", x.tile(0, 0, 0, 0), 0);
    }

    /** TILES of one colour each, so that each fills everything and none lies beside another. */
    private static TileRules withTiles(int size) {
        TileRules x = new TileRules();
        withTiles(x, size);
        return x;
    }

    private static long withTiles(TileRules x, int size) {
        for (int t = 0; t < size; t++) {
            x.tile(t, t, t, t);
        }
        return 0;
    }

    // ---- promise 4

    private static void fillings() {
        sentence(4, "w times h (1 .. 4 each); BAD");
        Numbers asked = (x, n) -> x.fillings(n[0], n[1], n[2] == 1);
        int[][] bad = {beyond(1, 4), beyond(1, 4), {}};
        for (int ring = 0; ring < 2; ring++) {
            badNumbers("bare: fillings", x -> 0, asked, new int[] {1, 1, ring}, bad);
            badNumbers("some: fillings", BoundaryTest::some, asked, new int[] {4, 4, ring}, bad);
            badNumbers("full: fillings", BoundaryTest::full, asked, new int[] {4, 1, ring}, bad);
        }
        sentence(4, "no TILE, no FILLING");
        TileRules none = new TileRules();
        TileRules most = new TileRules();
        for (int t = 0; t < 8; t++) {
            most.tile(0, 9, 0, 9);
        }
        for (int i = 0; i < 32; i++) {
            int w = 1 + i % 4;
            int h = 1 + i / 4 % 4;
            boolean ring = i >= 16;
            due("fillings(" + w + ", " + h + ", " + ring + ")", none.fillings(w, h, ring), 0);
        }
        sentence(4, "as many as there can be");
        for (int i = 0; i < 32; i++) {
            int w = 1 + i % 4;
            int h = 1 + i / 4 % 4;
            boolean ring = i >= 16;
            due("fillings(" + w + ", " + h + ", " + ring + ")", most.fillings(w, h, ring), 1L << 3 * w * h);
        }
        edgesThatTouch();
        ringsOfOne();
        ringsRowByRow();
        sentence(4, "rings of TILES that follow one another in cycles");
        for (int k = 1; k <= 8; k++) {
            for (int i = 0; i < k * k; i++) {
                checkCycle(k, i % k, i / k);
            }
        }
    }

    private static void edgesThatTouch() {
        sentence(4, "edges that touch have one colour, others need not");
        TileRules x = new TileRules();
        x.tile(1, 2, 3, 4);
        due("fillings(1, 1, false)", x.fillings(1, 1, false), 1);
        due("fillings(2, 1, false)", x.fillings(2, 1, false), 0);
        due("fillings(1, 2, false)", x.fillings(1, 2, false), 0);
        x.tile(5, 6, 7, 2);
        due("east of it, fillings(2, 1, false)", x.fillings(2, 1, false), 1);
        due("east of it, laid(2, 1, false, 1, 0)", x.laid(2, 1, false, 1, 0), 1);
        due("east of it, fillings(1, 2, false)", x.fillings(1, 2, false), 0);
        x.untile();
        x.tile(3, 6, 7, 8);
        due("south of it, fillings(1, 2, false)", x.fillings(1, 2, false), 1);
        due("south of it, laid(1, 2, false, 0, 1)", x.laid(1, 2, false, 0, 1), 1);
        due("south of it, fillings(2, 1, false)", x.fillings(2, 1, false), 0);
        x.untile();
        // colours that are the same where no edges touch
        x.tile(2, 3, 4, 1);
        due("neither, fillings(2, 1, false)", x.fillings(2, 1, false), 0);
        due("neither, fillings(1, 2, false)", x.fillings(1, 2, false), 0);
    }

    private static void ringsOfOne() {
        sentence(4, "RING FILLING of one column or one row: a TILE beside itself");
        TileRules x = new TileRules();
        x.tile(1, 2, 1, 3);
        due("fillings(1, 1, true)", x.fillings(1, 1, true), 0);
        due("fillings(1, 4, true)", x.fillings(1, 4, true), 0);
        x.untile();
        x.tile(1, 2, 3, 2);
        due("fillings(1, 1, true)", x.fillings(1, 1, true), 0);
        due("fillings(4, 1, true)", x.fillings(4, 1, true), 0);
        due("fillings(4, 1, false)", x.fillings(4, 1, false), 1);
        x.tile(3, 2, 1, 2);
        due("fillings(1, 2, true)", x.fillings(1, 2, true), 2);
        due("fillings(1, 3, true)", x.fillings(1, 3, true), 0);
        due("fillings(1, 4, true)", x.fillings(1, 4, true), 2);
        due("fillings(4, 1, true)", x.fillings(4, 1, true), 0);
        due("fillings(3, 2, true)", x.fillings(3, 2, true), 8);
    }

    /** The west of each row fits to the east of the other row alone, and with it four in a row. */
    private static void ringsRowByRow() {
        sentence(4, "the last column to the first one, row by row");
        int[][] four = {{4, 3, 6, 1}, {5, 2, 7, 3}, {6, 8, 4, 2}, {7, 1, 5, 8}};
        TileRules rows = new TileRules();
        TileRules columns = new TileRules();
        for (int[] t : four) {
            rows.tile(t[0], t[1], t[2], t[3]);
            columns.tile(t[3], t[2], t[1], t[0]);
        }
        due("fillings(2, 2, false)", rows.fillings(2, 2, false), 4);
        due("fillings(2, 2, true)", rows.fillings(2, 2, true), 0);
        due("fillings(4, 1, true)", rows.fillings(4, 1, true), 0);
        due("fillings(4, 2, true)", rows.fillings(4, 2, true), 4);
        due("fillings(2, 4, true)", rows.fillings(2, 4, true), 0);
        sentence(4, "the south edges of the last row those of the north edges of the first");
        due("fillings(2, 2, false)", columns.fillings(2, 2, false), 4);
        due("fillings(2, 2, true)", columns.fillings(2, 2, true), 0);
        due("fillings(1, 4, true)", columns.fillings(1, 4, true), 0);
        due("fillings(2, 4, true)", columns.fillings(2, 4, true), 4);
        due("fillings(4, 2, true)", columns.fillings(4, 2, true), 0);
    }

    /** k TILES: east of i lies i + a alone, south of i lies i + b alone, both by the rest of k. */
    private static void addCycle(TileRules x, int k, int a, int b, int colour) {
        for (int i = 0; i < k; i++) {
            x.tile(colour + i, colour + (i + a) % k, colour + (i + b) % k, colour + i);
        }
    }

    private static void checkCycle(int k, int a, int b) {
        TileRules x = new TileRules();
        addCycle(x, k, a, b, 10 - k);
        for (int i = 0; i < 16; i++) {
            int w = 1 + i % 4;
            int h = 1 + i / 4;
            boolean closed = a * w % k == 0 && b * h % k == 0;
            String told = k + ", " + a + ", " + b + ": ";
            due(told + "fillings(" + w + ", " + h + ", false)", x.fillings(w, h, false), k);
            due(told + "fillings(" + w + ", " + h + ", true)", x.fillings(w, h, true), closed ? k : 0);
            int last = (a * (w - 1) + b * (h - 1)) % k;
            due(told + "laid, the last place", x.laid(w, h, false, w - 1, h - 1), last);
            due(told + "laid in a ring, the last place", x.laid(w, h, true, w - 1, h - 1), closed ? last : NONE);
        }
    }

    // ---- promise 5

    private static void laid() {
        sentence(5, "BAD");
        Numbers asked = (x, n) -> x.laid(n[0], n[1], n[2] == 1, n[3], n[4]);
        for (int ring = 0; ring < 2; ring++) {
            badNumbers("bare: laid", x -> 0, asked, new int[] {1, 1, ring, 0, 0},
                    new int[][] {{0, 5, -1, LEAST, MOST}, {0, 5, -1, LEAST, MOST}, {}, beyond(0, 0), beyond(0, 0)});
            badNumbers("some: laid", BoundaryTest::some, asked, new int[] {4, 2, ring, 3, 1},
                    new int[][] {{0, 3, 5, LEAST, MOST}, {0, 1, 5, LEAST, MOST}, {}, beyond(0, 3), beyond(0, 1)});
            badNumbers("full: laid", BoundaryTest::full, asked, new int[] {2, 4, ring, 1, 3},
                    new int[][] {{0, 1, 5, LEAST, MOST}, {0, 3, 5, LEAST, MOST}, {}, beyond(0, 1), beyond(0, 3)});
        }
        sentence(5, "NONE: there is none");
        refused("bare: laid(1, 1, false, 0, 0)", x -> 0, x -> x.laid(1, 1, false, 0, 0), NONE);
        refused("bare: laid(4, 4, true, 3, 3)", x -> 0, x -> x.laid(4, 4, true, 3, 3), NONE);
        Deed lone = x -> x.tile(1, 2, 3, 4);
        refused("one: laid(1, 1, true, 0, 0)", lone, x -> x.laid(1, 1, true, 0, 0), NONE);
        refused("one: laid(2, 1, false, 0, 0)", lone, x -> x.laid(2, 1, false, 0, 0), NONE);
        refused("one: laid(1, 2, false, 0, 1)", lone, x -> x.laid(1, 2, false, 0, 1), NONE);
        due("laid(1, 1, false, 0, 0)", withTiles(1).laid(1, 1, false, 0, 0), 0);
        sentence(5, "FILLINGS are in order by the TILE at (0, 0), then at (1, 0) and so on, row by row");
        // there are two: 0 1 / 2 3 and 0 2 / 1 4; column by column the second would come first
        int[][] two = {{9, 0, 0, 8}, {0, 1, 1, 0}, {0, 2, 3, 0}, {1, 7, 7, 2}, {3, 7, 7, 1}};
        TileRules x = new TileRules();
        for (int[] t : two) {
            x.tile(t[0], t[1], t[2], t[3]);
        }
        due("fillings(2, 2, false)", x.fillings(2, 2, false), 2);
        int[] want = {0, 1, 2, 3};
        for (int i = 0; i < 4; i++) {
            due("laid(2, 2, false, " + i % 2 + ", " + i / 2 + ")", x.laid(2, 2, false, i % 2, i / 2), want[i]);
        }
        sentence(5, "the first FILLING, where the first rows lead to none");
        TileRules late = new TileRules();
        late.tile(1, 5, 2, 5);
        late.tile(3, 5, 3, 5);
        for (int i = 0; i < 4; i++) {
            due("laid(2, 1, false, ..)", late.laid(2, 1, false, i % 2, 0), 0);
            due("laid(2, 2, false, ..)", late.laid(2, 2, false, i % 2, i / 2), 1);
            due("laid(2, 2, true, ..)", late.laid(2, 2, true, i % 2, i / 2), 1);
        }
        laidInRings();
    }

    private static void laidInRings() {
        sentence(5, "the first RING FILLING, where the first FILLING is none");
        TileRules x = new TileRules();
        x.tile(5, 1, 5, 0);
        x.tile(5, 2, 5, 1);
        x.tile(5, 1, 5, 2);
        int[][] wants = {{0, 1, 2}, {NONE, NONE, NONE}};
        for (int i = 0; i < 3; i++) {
            due("laid(3, 1, false, " + i + ", 0)", x.laid(3, 1, false, i, 0), wants[0][i]);
            due("laid(3, 1, true, " + i + ", 0)", x.laid(3, 1, true, i, 0), wants[1][i]);
        }
        for (int i = 0; i < 4; i++) {
            due("laid(4, 1, true, " + i + ", 0)", x.laid(4, 1, true, i, 0), 1 + i % 2);
            due("laid(4, 4, true, " + i + ", 3)", x.laid(4, 4, true, i, 3), 1 + i % 2);
        }
        due("laid(4, 4, false, 0, 3)", x.laid(4, 4, false, 0, 3), 0);
        // 2 alone lies in rings; 0 has its colour in the north, and 1 lies below 0 alone
        TileRules y = new TileRules();
        y.tile(0, 5, 1, 5);
        y.tile(1, 5, 2, 5);
        y.tile(0, 5, 0, 5);
        for (int h = 1; h <= 4; h++) {
            due("laid(1, " + h + ", true, 0, " + (h - 1) + ")", y.laid(1, h, true, 0, h - 1), 2);
        }
    }

    // ---- promises 6, 7 and 8

    private static void repeats() {
        sentence(6, "NONE");
        refused("bare: repeats()", x -> 0, TileRules::repeats, NONE);
        refused("one that fits nowhere: repeats()", x -> x.tile(1, 2, 3, 4), TileRules::repeats, NONE);
        sentence(6, "w times h, 1 .. 4 each");
        for (int k = 1; k <= 8; k++) {
            for (int i = 0; i < k * k; i++) {
                TileRules x = new TileRules();
                addCycle(x, k, i % k, i / k, 0);
                int w = cycle(k, i % k);
                int h = cycle(k, i / k);
                due("repeats() of " + k + ", " + i % k + ", " + i / k, x.repeats(), w > 4 || h > 4 ? NONE : 10 * w + h);
            }
        }
        sentence(6, "The least w times h, of several that with the least w");
        // two cycles each: k, a, b, k, a, b, and which of the two comes first
        int[][] pairs = {
            {2, 1, 0, 2, 0, 1, 12}, {3, 1, 0, 3, 0, 1, 13}, {4, 1, 0, 4, 0, 1, 14}, {2, 1, 1, 4, 0, 1, 14},
            {2, 1, 1, 4, 1, 0, 22}, {4, 1, 2, 4, 2, 1, 24}, {3, 1, 0, 4, 0, 1, 31}, {3, 1, 1, 4, 1, 2, 42},
            {3, 1, 1, 4, 2, 1, 24}, {3, 1, 0, 2, 1, 1, 31}, {4, 1, 0, 3, 1, 1, 41}, {4, 1, 1, 3, 1, 1, 33},
            {6, 2, 3, 2, 1, 1, 22}, {6, 3, 2, 2, 1, 0, 21}, {6, 2, 3, 1, 0, 0, 11}, {5, 1, 1, 3, 1, 1, 33},
        };
        for (int[] p : pairs) {
            TileRules x = new TileRules();
            addCycle(x, p[0], p[1], p[2], 0);
            addCycle(x, p[3], p[4], p[5], p[0]);
            TileRules y = new TileRules();
            addCycle(y, p[3], p[4], p[5], 0);
            addCycle(y, p[0], p[1], p[2], p[3]);
            due("repeats() of " + Arrays.toString(p), x.repeats(), p[6]);
            due("repeats() of the same two, exchanged, " + Arrays.toString(p), y.repeats(), p[6]);
        }
    }

    /** How many steps of this length lead round k for the first time. */
    private static int cycle(int k, int step) {
        int steps = 1;
        while (steps * step % k != 0) {
            steps++;
        }
        return steps;
    }

    private static void radius() {
        sentence(7, "The least k such that there is no FILLING of k times k");
        for (int w = 1; w <= 8; w++) {
            for (int h = 1; w * h <= 8; h++) {
                due("radius() of " + w + ", " + h, grid(w, h).radius(), Math.min(w, h) + 1);
            }
        }
        int[] want = {1, 2, 2, 3, 3, 4, 4, NONE, NONE};
        for (int size = 0; size <= 8; size++) {
            due("radius() of sums below " + size, sums(size).radius(), want[size]);
        }
        sentence(7, "no TILE");
        due("bare: radius()", new TileRules().radius(), 1);
        sentence(7, "NONE: there is one of 4 times 4");
        refused("sums: radius()", x -> addSums(x, 7), TileRules::radius, NONE);
        refused("full: radius()", BoundaryTest::full, TileRules::radius, NONE);
        due("one alone: radius()", withTiles(1).radius(), NONE);
        sentence(7, "no RING FILLING is asked for");
        TileRules five = new TileRules();
        addCycle(five, 5, 1, 1, 0);
        due("a ring of five: radius()", five.radius(), NONE);
        due("a ring of five: repeats()", five.repeats(), NONE);
    }

    /** A TILE for each place of w times h, which fits there alone. */
    private static TileRules grid(int w, int h) {
        TileRules x = new TileRules();
        for (int i = 0; i < w * h; i++) {
            x.tile(i / w, i % w + 1, i / w + 1, i % w);
        }
        return x;
    }

    /** TILES that lie where x + y is the same number more than at the place (0, 0). */
    private static TileRules sums(int size) {
        TileRules x = new TileRules();
        addSums(x, size);
        return x;
    }

    private static long addSums(TileRules x, int size) {
        for (int sum = 0; sum < size; sum++) {
            x.tile(sum, sum + 1, sum + 1, sum);
        }
        return 0;
    }

    private static void middle() {
        sentence(8, "BAD");
        int[] none = {-1, 0, 1, 7, 8, LEAST, MOST};
        int[] three = {-1, 3, 4, 7, 8, LEAST, MOST};
        int[] eight = {-1, 8, 9, LEAST, MOST};
        Numbers asked = (x, n) -> x.middle(n[0]);
        badNumbers("bare: middle", x -> 0, asked, new int[1], new int[][] {none});
        badNumbers("some: middle", BoundaryTest::some, asked, new int[1], new int[][] {three});
        badNumbers("full: middle", BoundaryTest::full, asked, new int[1], new int[][] {eight});
        sentence(8, "a TILE in the middle");
        // with sums 0 .. 4 one FILLING alone: 2 lies in the middle, beside it 1 and 3
        TileRules x = sums(5);
        for (int t = 0; t < 5; t++) {
            due("middle(" + t + ")", x.middle(t), t == 2 ? 1 : 0);
        }
        sentence(8, "no RING FILLING");
        due("fillings(3, 3, true)", x.fillings(3, 3, true), 0);
        due("middle(2)", x.middle(2), 1);
        sentence(8, "as many as there can be");
        TileRules most = new TileRules();
        for (int t = 0; t < 8; t++) {
            most.tile(3, 3, 3, 3);
        }
        due("middle(0)", most.middle(0), 1L << 24);
        due("middle(7)", most.middle(7), 1L << 24);
        due("no FILLING of 3 times 3: middle(0)", grid(2, 2).middle(0), 0);
    }

    // ---- promises 9 and 10

    private static void pieces() {
        sentence(9, "cells of five times five (bit 5 y + x)");
        for (int bit = 0; bit < 25; bit++) {
            due("piece(" + (1 << bit) + ")", new TileRules().piece(1 << bit), 0);
        }
        for (int bit = 25; bit < 32; bit++) {
            int cells = 1 << bit;
            refusedAnywhere("piece(" + cells + ")", x -> x.piece(cells), BAD);
            refusedAnywhere("piece(" + (cells | 1 << 24) + ")", x -> x.piece(cells | 1 << 24), BAD);
            refusedAnywhere("piece(" + (cells | 1) + ")", x -> x.piece(cells | 1), BAD);
        }
        refusedAnywhere("piece(" + MOST + ")", x -> x.piece(MOST), BAD);
        refusedAnywhere("piece(-1)", x -> x.piece(-1), BAD);
        sentence(9, "BAD: also not 1 .. 5 cells");
        refusedAnywhere("piece(0)", x -> x.piece(0), BAD);
        int[] six = {63, 31 | 1 << 9, 1 << 24 | 31 << 15, 7 | 7 << 5, 31 << 20 | 1 << 15, (1 << 25) - 1};
        for (int cells : six) {
            refusedAnywhere("piece(" + cells + ")", x -> x.piece(cells), BAD);
        }
        int[] five = {31, 31 << 20, 1082401, 1082401 << 4, 7 | 3 << 5, 2 | 7 << 5 | 2 << 10,
            7 << 22 | 1 << 19 | 1 << 17};
        for (int cells : five) {
            due("piece(" + cells + ")", new TileRules().piece(cells), 0);
        }
        piecesThatHangTogether();
        fullOfPieces();
        unpiece();
    }

    private static void piecesThatHangTogether() {
        sentence(9, "or they do not hang together (by sides)");
        for (int y = 0; y < 4; y++) {
            int overTheEdge = 3 << 5 * y + 4;
            refusedAnywhere("piece(" + overTheEdge + ")", x -> x.piece(overTheEdge), BAD);
            due("piece(" + (3 << 5 * y + 3) + ")", new TileRules().piece(3 << 5 * y + 3), 0);
            int atCorners = 1 << 5 * y | 2 << 5 * (y + 1);
            refusedAnywhere("piece(" + atCorners + ")", x -> x.piece(atCorners), BAD);
            due("piece(" + (33 << 5 * y + y) + ")", new TileRules().piece(33 << 5 * y + y), 0);
        }
        int[] apart = {5, 1 | 1 << 10, 1 | 1 << 4, 1 | 1 << 20, 1 | 1 << 24, 3 | 3 << 3, 27, 1 | 2 << 5 | 4 << 10,
            17 | 31 << 10 & 7 << 11, 3 | 3 << 10, 1 << 9 | 1 << 20, 15 << 1 | 1 << 5, 1 << 20 | 15 << 16,
            5 | 3 << 5, 3 | 4 << 5, 6 | 1 << 5, 3 << 2 | 3 << 5};
        for (int cells : apart) {
            refusedAnywhere("piece(" + cells + ")", x -> x.piece(cells), BAD);
        }
        overTheEdgeFromWithin();
    }

    private static void fullOfPieces() {
        sentence(9, "PIECES 0 .. 5, FULL");
        TileRules x = new TileRules();
        for (int p = 0; p < 6; p++) {
            due("piece(3)", x.piece(3), p);
        }
        refused("the seventh", BoundaryTest::full, y -> y.piece(1), FULL);
        refused("the seventh, like the first", BoundaryTest::full, y -> y.piece(31), FULL);
        due("piece(1)", x.piece(1), FULL);
        due("unpiece()", x.unpiece(), 5);
        due("piece(1)", x.piece(1), 5);
        due("piece(1)", x.piece(1), FULL);
    }

    /** Two cells that hang together, and a third that would over the east or the west side alone. */
    private static void overTheEdgeFromWithin() {
        for (int y = 0; y < 4; y++) {
            int east = 7 << 5 * y + 3;
            int west = 49 << 5 * y;
            refusedAnywhere("piece(" + east + ")", x -> x.piece(east), BAD);
            refusedAnywhere("piece(" + west + ")", x -> x.piece(west), BAD);
        }
        // from the first cell the last one is reached to the north, to the west, and both
        for (int cells : new int[] {1 | 4 | 7 << 5, 2 | 3 << 5, 4 | 7 << 5 | 1, 8 | 15 << 5, 4 | 4 << 5 | 7 << 10}) {
            due("piece(" + cells + ")", new TileRules().piece(cells), 0);
        }
    }

    private static void unpiece() {
        sentence(10, "NONE");
        refused("bare: unpiece()", x -> 0, TileRules::unpiece, NONE);
        refused("one came and went: unpiece()", x -> x.piece(1) + x.unpiece(), TileRules::unpiece, NONE);
        sentence(10, "The last PIECE goes: how many are left");
        TileRules x = new TileRules();
        int[] cells = {1, 3, 7, 15, 31, 99};
        int[] places = {20, 31, 22, 13, 4, 12};
        for (int p = 0; p < 6; p++) {
            x.piece(cells[p]);
        }
        x.board(5, 4, 0);
        for (int left = 5; left >= 0; left--) {
            if (left < 5) {
                due("placements(" + left + ")", x.placements(left), places[left]);
            }
            due("unpiece()", x.unpiece(), left);
            due("count(1)", x.count(1), left);
            due("placements(" + left + ")", x.placements(left), BAD);
        }
        due("unpiece()", x.unpiece(), NONE);
        due("covers(1)", x.covers(1), 0);
        x.piece(1);
        x.piece(1);
        due("cover(1, 0, 0, 0)", x.cover(1, 0, 0, 0), 0);
        x.unpiece();
        due("one went: cover(1, 0, 0, 0)", x.cover(1, 0, 0, 0), 0);
        x.unpiece();
        due("both went: cover(1, 0, 0, 0)", x.cover(1, 0, 0, 0), NONE);
        due("piece(7)", x.piece(7), 0);
        due("placements(0)", x.placements(0), 22);
    }

    // ---- promises 11, 12 and 13

    private static void board() {
        sentence(11, "w times h cells, 1 .. 5 and 1 .. 4; BAD");
        Numbers asked = (x, n) -> x.board(n[0], n[1], n[2]);
        int[][] bad = {beyond(1, 5), beyond(1, 4), {-1, LEAST, MOST}};
        badNumbers("bare: board", x -> 0, asked, new int[] {1, 1, 0}, bad);
        badNumbers("some: board", BoundaryTest::some, asked, new int[] {5, 1, 1}, bad);
        badNumbers("full: board", BoundaryTest::full, asked, new int[] {1, 4, 3}, bad);
        refusedAnywhere("board(4, 5, 0)", x -> x.board(4, 5, 0), BAD);
        refusedAnywhere("board(65536, 65536, 0)", x -> x.board(65536, 65536, 0), BAD);
        refusedAnywhere("board(-1, -1, 0)", x -> x.board(-1, -1, 0), BAD);
        TileRules x = new TileRules();
        for (int w = 1; w <= 5; w++) {
            for (int h = 1; h <= 4; h++) {
                due("board(" + w + ", " + h + ", 0)", x.board(w, h, 0), w * h);
                due("count(4)", x.count(4), w * h);
                due("cover(0, w - 1, h - 1, 0)", x.cover(0, w - 1, h - 1, 0), NONE);
                due("cover(0, w, 0, 0)", x.cover(0, w, 0, 0), BAD);
                due("cover(0, 0, h, 0)", x.cover(0, 0, h, 0), BAD);
            }
        }
        holesThatAreNoCells();
        holes();
    }

    private static void holesThatAreNoCells() {
        sentence(11, "BAD: also HOLES that are no cells");
        for (int i = 0; i < 20; i++) {
            int w = 1 + i % 5;
            int h = 1 + i / 5;
            int first = 1 << w * h;
            refused("some: board(" + w + ", " + h + ", " + first + ")", BoundaryTest::some,
                    y -> y.board(w, h, first), BAD);
            refused("full: board(" + w + ", " + h + ", " + (first + 1) + ")", BoundaryTest::full,
                    y -> y.board(w, h, first + 1), BAD);
            refused("some: board(" + w + ", " + h + ", " + LEAST + ")", BoundaryTest::some,
                    y -> y.board(w, h, LEAST), BAD);
        }
    }

    private static void holes() {
        sentence(11, "how many cells are no HOLES; HOLES (bit w y + x)");
        TileRules all = new TileRules();
        all.piece(1);
        for (int i = 0; i < 20; i++) {
            int w = 1 + i % 5;
            int h = 1 + i / 5;
            due("board of HOLES", all.board(w, h, (1 << w * h) - 1), 0);
            due("placements(0)", all.placements(0), 0);
            due("count(4)", all.count(4), w * h);
            int last = 1 << w * h - 1;
            due("board, a HOLE at the end", all.board(w, h, last), w * h - 1);
            due("placements(0)", all.placements(0), w * h - 1);
            due("cover on the HOLE", all.cover(1, w - 1, h - 1, 0), NONE);
            int second = w > 1 ? 2 : h > 1 ? 1 << w : 0;
            due("board, a HOLE beside the first", all.board(w, h, second), w * h - (second == 0 ? 0 : 1));
            due("cover on the first", all.cover(1, 0, 0, 1), 1);
        }
        due("board(3, 2, 8)", all.board(3, 2, 8), 5);
        due("cover(1, 0, 1, 0)", all.cover(1, 0, 1, 0), NONE);
        due("cover(1, 2, 0, 1)", all.cover(1, 2, 0, 1), 4);
    }

    private static void may() {
        sentence(12, "BAD");
        for (int what : new int[] {-1, 2, 3, LEAST, MOST}) {
            refusedAnywhere("may(" + what + ", true)", x -> x.may(what, true), BAD);
            refusedAnywhere("may(" + what + ", false)", x -> x.may(what, false), BAD);
        }
        sentence(12, "whether they were (1 or 0)");
        TileRules x = new TileRules();
        boolean[] on = {true, true};
        for (int i = 0; i < 32; i++) {
            int what = i / 2 % 2;
            boolean now = (i * 5 >> 2 & 1) == 0;
            due("may(" + what + ", " + now + ")", x.may(what, now), on[what] ? 1 : 0);
            on[what] = now;
        }
        sentence(12, "TURNS (what = 0) or MIRRORS (1) are on or not");
        // an S on 3 times 3: lying and upright, at two places each; and mirrored, as many again
        TileRules s = new TileRules();
        s.piece(102 << 7);
        s.board(3, 3, 0);
        s.may(1, false);
        due("TURNS alone: placements(0)", s.placements(0), 4);
        s.may(1, true);
        due("both: placements(0)", s.placements(0), 8);
        s.may(0, false);
        due("MIRRORS alone: placements(0)", s.placements(0), 4);
        s.board(3, 2, 0);
        due("MIRRORS alone: placements(0)", s.placements(0), 2);
        s.board(2, 3, 0);
        due("MIRRORS alone, it would have to be turned: placements(0)", s.placements(0), 0);
        s.may(1, false);
        s.board(3, 2, 0);
        due("neither: placements(0)", s.placements(0), 1);
    }

    private static void placements() {
        sentence(13, "BAD");
        Numbers asked = (x, n) -> x.placements(n[0]);
        badNumbers("bare: placements", x -> 0, asked, new int[1], new int[][] {{-1, 0, 1, 5, 6, LEAST, MOST}});
        badNumbers("some: placements", BoundaryTest::some, asked, new int[1], new int[][] {{-1, 3, 5, 6, LEAST, MOST}});
        badNumbers("full: placements", BoundaryTest::full, asked, new int[1], new int[][] {{-1, 6, 7, LEAST, MOST}});
        placementsWithinTheSides();
        placementsFromAnywhere();
        placementsWithoutHoles();
        placementsOnce();
    }

    private static void placementsWithinTheSides() {
        sentence(13, "cells of THE BOARD: none beyond its sides");
        int[] straight = {1, 3, 7, 15, 31};
        for (int i = 0; i < 20; i++) {
            int w = 1 + i % 5;
            int h = 1 + i / 5;
            TileRules x = new TileRules();
            x.board(w, h, 0);
            for (int size = 1; size <= 5; size++) {
                due("piece", x.piece(straight[size - 1]), size - 1);
            }
            for (int size = 1; size <= 5; size++) {
                int across = Math.max(0, w - size + 1) * h;
                int along = Math.max(0, h - size + 1) * w;
                due(w + " times " + h + ": placements(" + (size - 1) + ")", x.placements(size - 1),
                        size == 1 ? w * h : across + along);
            }
            x.may(0, false);
            for (int size = 1; size <= 5; size++) {
                due(w + " times " + h + ", not turned: placements(" + (size - 1) + ")", x.placements(size - 1),
                        Math.max(0, w - size + 1) * h);
            }
        }
    }

    private static void placementsFromAnywhere() {
        sentence(13, "its cells moved along both ways, from wherever they were told");
        for (int shift : new int[] {0, 1, 3, 5, 8, 15, 18}) {
            TileRules x = new TileRules();
            x.may(0, false);
            x.may(1, false);
            x.piece(35 << shift);
            x.board(4, 3, 0);
            due("piece(" + (35 << shift) + "): placements(0)", x.placements(0), 6);
            x.board(2, 2, 0);
            due("piece(" + (35 << shift) + "): placements(0)", x.placements(0), 1);
            due("piece(" + (35 << shift) + "): board, covers(0)", x.board(2, 2, 8), 3);
            due("piece(" + (35 << shift) + "): cover(0, 1, 0, 1)", x.cover(0, 1, 0, 1), 7);
        }
        for (int bit = 0; bit < 25; bit++) {
            TileRules x = new TileRules();
            x.may(0, false);
            x.may(1, false);
            x.piece(1 << bit);
            x.board(5, 4, 0);
            due("piece(" + (1 << bit) + "): placements(0)", x.placements(0), 20);
        }
    }

    private static void placementsWithoutHoles() {
        sentence(13, "none of them a HOLE");
        TileRules x = new TileRules();
        x.piece(3);
        x.board(3, 3, 16);
        due("placements(0)", x.placements(0), 8);
        x.board(3, 3, 511 ^ 3);
        due("placements(0)", x.placements(0), 1);
        x.board(3, 3, 511 ^ 5);
        due("placements(0)", x.placements(0), 0);
        x.board(5, 4, 1048575);
        due("placements(0)", x.placements(0), 0);
    }

    private static void placementsOnce() {
        sentence(13, "turned by quarters and mirrored: eight ways");
        TileRules eight = new TileRules();
        eight.piece(7 | 1 << 5);
        eight.board(5, 4, 0);
        due("placements(0)", eight.placements(0), 4 * 3 * 3 + 4 * 4 * 2);
        sentence(13, "what has the same cells is one");
        int[] cells = {1, 3, 102, 35, 7 | 1 << 6, 2 | 7 << 5 | 2 << 10, 3 | 3 << 5, 7 | 1 << 5};
        int[] want = {9, 12, 8, 16, 8, 1, 4, 16};
        for (int i = 0; i < cells.length; i++) {
            TileRules y = new TileRules();
            y.piece(cells[i]);
            y.board(3, 3, 0);
            due("piece(" + cells[i] + "): placements(0)", y.placements(0), want[i]);
        }
    }

    // ---- promises 14, 15 and 16

    private static void covers() {
        sentence(14, "BAD");
        for (int mode : new int[] {-1, 3, 4, LEAST, MOST}) {
            refusedAnywhere("covers(" + mode + ")", x -> x.covers(mode), BAD);
        }
        sentence(14, "without PIECES, without cells");
        TileRules x = new TileRules();
        due("a cell, covers(0)", x.covers(0), 0);
        due("a cell, covers(1)", x.covers(1), 0);
        due("a cell, covers(2)", x.covers(2), 0);
        x.board(1, 1, 1);
        due("no cell, covers(0)", x.covers(0), 1);
        due("no cell, covers(1)", x.covers(1), 1);
        due("no cell, covers(2)", x.covers(2), 1);
        x.piece(1);
        due("no cell but a PIECE, covers(0)", x.covers(0), 0);
        due("no cell but a PIECE, covers(1)", x.covers(1), 1);
        due("no cell but a PIECE, covers(2)", x.covers(2), 1);
        sentence(14, "each cell that is no HOLE in just one of them");
        TileRules y = new TileRules();
        y.piece(3);
        y.board(3, 1, 0);
        due("three cells of two: covers(1)", y.covers(1), 0);
        y.board(3, 1, 2);
        due("a HOLE between: covers(1)", y.covers(1), 0);
        y.board(3, 1, 1);
        due("a HOLE first: covers(1)", y.covers(1), 1);
        y.board(3, 1, 4);
        due("a HOLE last: covers(1)", y.covers(1), 1);
        y.board(2, 2, 9);
        due("HOLES across: covers(1)", y.covers(1), 0);
        y.board(2, 2, 6);
        due("HOLES across: covers(1)", y.covers(1), 0);
        sentence(14, "0 each PIECE once; 1 as often as may be; 2 each once at most");
        modes();
        sentence(14, "the same if they have the same cells for the same PIECES");
        alikePieces();
        sentence(14, "as many as there can be");
        TileRules most = new TileRules();
        for (int p = 0; p < 6; p++) {
            most.piece(1 << 4 * p);
        }
        most.board(5, 4, 0);
        due("covers(1)", most.covers(1), 3656158440062976L);
        due("covers(0)", most.covers(0), 0);
        due("covers(2)", most.covers(2), 0);
    }

    private static void modes() {
        TileRules x = new TileRules();
        x.piece(3);
        x.piece(1);
        // cells of one row, and the covers of each mode
        long[][] want = {{0, 1, 1}, {0, 2, 1}, {2, 3, 2}, {0, 5, 0}, {0, 8, 0}};
        for (int w = 1; w <= 5; w++) {
            x.board(w, 1, 0);
            for (int mode = 0; mode < 3; mode++) {
                due(w + " cells: covers(" + mode + ")", x.covers(mode), want[w - 1][mode]);
            }
        }
        x.piece(1);
        long[][] more = {{0, 2, 2}, {0, 5, 3}, {0, 12, 4}, {6, 29, 6}, {0, 70, 0}};
        for (int w = 1; w <= 5; w++) {
            x.board(w, 1, 0);
            for (int mode = 0; mode < 3; mode++) {
                due("another, " + w + " cells: covers(" + mode + ")", x.covers(mode), more[w - 1][mode]);
            }
        }
    }

    private static void alikePieces() {
        TileRules x = new TileRules();
        x.board(2, 2, 0);
        x.piece(3);
        x.piece(3);
        // two ways to lay them, and in each the two can change places
        due("two alike: covers(0)", x.covers(0), 4);
        due("two alike: covers(1)", x.covers(1), 8);
        due("two alike: covers(2)", x.covers(2), 4);
        x.unpiece();
        due("one: covers(0)", x.covers(0), 0);
        due("one: covers(1)", x.covers(1), 2);
        due("one: covers(2)", x.covers(2), 0);
        x.unpiece();
        x.piece(99);
        for (int mode = 0; mode < 3; mode++) {
            due("a square, whichever way it is turned: covers(" + mode + ")", x.covers(mode), 1);
        }
        x.piece(99 << 18);
        due("two squares: covers(0)", x.covers(0), 0);
        due("two squares: covers(1)", x.covers(1), 2);
        due("two squares: covers(2)", x.covers(2), 2);
    }

    private static void cover() {
        sentence(15, "BAD: also there is no such cell");
        Numbers asked = (x, n) -> x.cover(n[0], n[1], n[2], n[3]);
        int[] modes = {-1, 3, LEAST, MOST};
        int[] whats = {-1, 2, LEAST, MOST};
        badNumbers("bare: cover", x -> 0, asked, new int[] {1, 0, 0, 0},
                new int[][] {modes, beyond(0, 0), beyond(0, 0), whats});
        badNumbers("some: cover", BoundaryTest::some, asked, new int[] {0, 2, 3, 1},
                new int[][] {modes, beyond(0, 2), beyond(0, 3), whats});
        badNumbers("some, a HOLE: cover", BoundaryTest::some, asked, new int[] {1, 1, 1, 1},
                new int[][] {modes, beyond(0, 2), beyond(0, 3), whats});
        badNumbers("full: cover", BoundaryTest::full, asked, new int[] {2, 4, 3, 0},
                new int[][] {modes, beyond(0, 4), beyond(0, 3), whats});
        sentence(15, "NONE: there is no COVER");
        for (int i = 0; i < 6; i++) {
            int mode = i / 2;
            int what = i % 2;
            refused("bare: cover", x -> 0, x -> x.cover(mode, 0, 0, what), NONE);
            refused("three cells of two: cover", x -> x.piece(3) + x.board(3, 1, 0),
                    x -> x.cover(mode, 0, 0, what), NONE);
            refused("three cells of two: cover", x -> x.piece(3) + x.board(3, 1, 0),
                    x -> x.cover(mode, 2, 0, what), NONE);
        }
        sentence(15, "NONE: or it is a HOLE");
        for (int i = 0; i < 6; i++) {
            int mode = i / 2;
            int what = i % 2;
            Deed ends = x -> x.piece(1) + x.piece(1) + x.board(3, 1, 2);
            refused("a HOLE between: cover", ends, x -> x.cover(mode, 1, 0, what), NONE);
            refused("no cell: cover", x -> x.board(1, 1, 1), x -> x.cover(mode, 0, 0, what), NONE);
        }
        TileRules x = new TileRules();
        x.piece(1);
        x.piece(1);
        x.board(3, 1, 2);
        int[] want = {0, 1, 0, 0, 0, 1};
        for (int mode = 0; mode < 3; mode++) {
            due("beside a HOLE: cover(" + mode + ", 0, 0, 0)", x.cover(mode, 0, 0, 0), want[2 * mode]);
            due("beside a HOLE: cover(" + mode + ", 2, 0, 0)", x.cover(mode, 2, 0, 0), want[2 * mode + 1]);
            due("beside a HOLE: cover(" + mode + ", 0, 0, 1)", x.cover(mode, 0, 0, 1), 1);
            due("beside a HOLE: cover(" + mode + ", 2, 0, 1)", x.cover(mode, 2, 0, 1), 4);
        }
        leastCovers();
        longCovers();
    }

    private static void leastCovers() {
        sentence(15, "the PLACEMENT of the least PIECE that leads to a COVER");
        TileRules x = new TileRules();
        x.piece(15);
        x.piece(7);
        x.piece(3);
        x.board(5, 1, 0);
        int[] pieces = {1, 1, 1, 2, 2};
        int[] cells = {7, 7, 7, 24, 24};
        for (int i = 0; i < 5; i++) {
            for (int mode = 1; mode < 3; mode++) {
                due("cover(" + mode + ", " + i + ", 0, 0)", x.cover(mode, i, 0, 0), pieces[i]);
                due("cover(" + mode + ", " + i + ", 0, 1)", x.cover(mode, i, 0, 1), cells[i]);
            }
        }
        sentence(15, "of several the one with the least number as cells");
        TileRules y = new TileRules();
        y.piece(35);
        y.piece(1);
        y.board(2, 2, 0);
        due("cover(0, 0, 0, 1)", y.cover(0, 0, 0, 1), 7);
        due("cover(0, 1, 1, 0)", y.cover(0, 1, 1, 0), 1);
        due("cover(0, 1, 1, 1)", y.cover(0, 1, 1, 1), 8);
        y.board(3, 2, 0);
        due("cover(1, 0, 0, 1)", y.cover(1, 0, 0, 1), 1 | 2 | 8);
        due("cover(1, 1, 1, 1)", y.cover(1, 1, 1, 1), 4 | 16 | 32);
        due("cover(1, 2, 1, 0)", y.cover(1, 2, 1, 0), 0);
        sentence(15, "cells in order of their bits");
        TileRules z = new TileRules();
        z.piece(3);
        z.piece(1);
        z.board(2, 3, 0);
        z.may(0, false);
        due("cover(1, 0, 2, 1)", z.cover(1, 0, 2, 1), 48);
        z.board(1, 4, 0);
        due("cover(1, 0, 3, 0)", z.cover(1, 0, 3, 0), 1);
        z.may(0, true);
        due("cover(1, 0, 3, 0)", z.cover(1, 0, 3, 0), 0);
        due("cover(1, 0, 3, 1)", z.cover(1, 0, 3, 1), 12);
        z.board(5, 4, 0);
        due("the last cell: cover(1, 4, 3, 1)", z.cover(1, 4, 3, 1), 1 << 19 | 1 << 14);
    }

    private static void longCovers() {
        sentence(15, "and so on, to the last cell");
        TileRules x = new TileRules();
        x.piece(1);
        x.board(5, 4, 0);
        for (int cell = 0; cell < 20; cell++) {
            due("cover(1, " + cell % 5 + ", " + cell / 5 + ", 1)", x.cover(1, cell % 5, cell / 5, 1), 1 << cell);
        }
        sentence(15, "turned by quarters and mirrored: eight ways");
        // all cells but those of one way to lay an L of four at one corner are HOLES
        TileRules y = new TileRules();
        y.piece(7 | 1 << 5);
        int[] ways = {0b001_111, 0b100_111, 0b111_100, 0b111_001, 0b10_10_11, 0b01_01_11, 0b11_10_10, 0b11_01_01};
        for (int i = 0; i < ways.length; i++) {
            int w = i < 4 ? 3 : 2;
            y.board(w, 5 - w, 63 & ~ways[i]);
            due("way " + i + ": covers(0)", y.covers(0), 1);
            for (int cell = 0; cell < 6; cell++) {
                due("way " + i + ": cover(0, ..)", y.cover(0, cell % w, cell / w, 1),
                        (ways[i] >> cell & 1) != 0 ? ways[i] : NONE);
            }
        }
    }

    private static void fewest() {
        sentence(16, "BAD");
        for (int mode : new int[] {-1, 3, 4, LEAST, MOST}) {
            refusedAnywhere("fewest(" + mode + ")", x -> x.fewest(mode), BAD);
        }
        sentence(16, "NONE");
        for (int i = 0; i < 3; i++) {
            int mode = i;
            refused("bare: fewest(" + mode + ")", x -> 0, x -> x.fewest(mode), NONE);
            refused("three cells of two: fewest(" + mode + ")", x -> x.piece(3) + x.board(3, 1, 0),
                    x -> x.fewest(mode), NONE);
        }
        refused("a PIECE too many: fewest(0)", x -> x.piece(1) + x.piece(1), x -> x.fewest(0), NONE);
        refused("no cell but a PIECE: fewest(0)", x -> x.piece(1) + x.board(1, 1, 1), x -> x.fewest(0), NONE);
        sentence(16, "(0 without cells)");
        TileRules x = new TileRules();
        x.board(5, 4, 1048575);
        for (int mode = 0; mode < 3; mode++) {
            due("fewest(" + mode + ")", x.fewest(mode), 0);
        }
        x.piece(1);
        due("with a PIECE: fewest(1)", x.fewest(1), 0);
        due("with a PIECE: fewest(2)", x.fewest(2), 0);
        sentence(16, "The fewest PLACEMENTS that a COVER has");
        for (int free = 1; free <= 20; free++) {
            x.board(5, 4, 1048575 >> free << free);
            due(free + " cells: fewest(1)", x.fewest(1), free);
            due(free + " cells: fewest(2)", x.fewest(2), free == 1 ? 1 : NONE);
        }
        x.piece(31);
        x.board(5, 4, 0);
        due("five of a row: fewest(1)", x.fewest(1), 4);
        x.board(5, 4, 1);
        due("five of a row, a HOLE: fewest(1)", x.fewest(1), 4 + 3);
    }

    // ---- promises 17 and 18

    private static void letters() {
        sentence(17, "n 1 .. 6, a 2 or 3; BAD");
        Numbers asked = (x, n) -> x.letters(n[0], n[1]);
        int[][] bad = {beyond(1, 6), {1, 4, 0, -1, LEAST, MOST}};
        badNumbers("bare: letters", x -> 0, asked, new int[] {1, 2}, bad);
        badNumbers("some: letters", BoundaryTest::some, asked, new int[] {3, 2}, bad);
        badNumbers("full: letters", BoundaryTest::full, asked, new int[] {6, 3}, bad);
        sentence(17, "how many LETTERS there were");
        TileRules x = new TileRules();
        int before = 1;
        for (int i = 0; i < 24; i++) {
            int n = 1 + i * 5 % 6;
            int a = 2 + i % 2;
            due("letters(" + n + ", " + a + ")", x.letters(n, a), before);
            due("count(3)", x.count(3), n);
            due("letter(n - 1, 1, a - 1, a - 1)", x.letter(n - 1, 1, a - 1, a - 1), 0);
            due("letter(n, 0, 0, 0)", x.letter(n, 0, 0, 0), BAD);
            due("letter(0, 1, a, 0)", x.letter(0, 1, a, 0), BAD);
            before = n;
        }
        sentence(17, "BLOCKS of a times a, all 0");
        for (int a = 2; a <= 3; a++) {
            TileRules y = new TileRules();
            y.letters(6, a);
            for (int l = 0; l < 6; l++) {
                fill(y, l, a, 5);
                due("many(" + l + ", 1, 5)", y.many(l, 1, 5), a * a);
            }
            due("the same again: letters(6, " + a + ")", y.letters(6, a), 6);
            for (int l = 0; l < 6; l++) {
                due("many(" + l + ", 1, 0)", y.many(l, 1, 0), a * a);
            }
            fill(y, 5, a, 4);
            due("fewer: letters(1, " + a + ")", y.letters(1, a), 6);
            due("more: letters(6, " + (5 - a) + ")", y.letters(6, 5 - a), 1);
            due("many(5, 1, 0)", y.many(5, 1, 0), (5 - a) * (5 - a));
        }
    }

    private static void fill(TileRules x, int l, int a, int m) {
        for (int i = 0; i < a * a; i++) {
            x.block(l, i % a, i / a, m);
        }
    }

    private static void block() {
        sentence(18, "BAD");
        Numbers asked = (x, n) -> x.block(n[0], n[1], n[2], n[3]);
        badNumbers("bare: block", x -> 0, asked, new int[] {0, 1, 1, 0},
                new int[][] {beyond(0, 0), beyond(0, 1), beyond(0, 1), beyond(0, 0)});
        badNumbers("some: block", BoundaryTest::some, asked, new int[] {2, 0, 0, 2},
                new int[][] {beyond(0, 2), beyond(0, 1), beyond(0, 1), beyond(0, 2)});
        badNumbers("full: block", BoundaryTest::full, asked, new int[] {5, 1, 2, 3},
                new int[][] {beyond(0, 5), beyond(0, 2), beyond(0, 2), beyond(0, 5)});
        sentence(18, "The LETTER at (x, y) becomes m: what it was");
        for (int a = 2; a <= 3; a++) {
            TileRules x = new TileRules();
            x.letters(6, a);
            for (int i = 0; i < a * a; i++) {
                due("block(5, .., " + i % 6 + ")", x.block(5, i % a, i / a, i % 6), 0);
            }
            for (int i = 0; i < a * a; i++) {
                due("letter(5, 1, ..)", x.letter(5, 1, i % a, i / a), i % 6);
                due("letter(0, 1, ..)", x.letter(0, 1, i % a, i / a), 0);
                due("letter(4, 1, ..)", x.letter(4, 1, i % a, i / a), 0);
            }
            for (int i = 0; i < a * a; i++) {
                due("block(5, .., 5)", x.block(5, i % a, i / a, 5), i % 6);
                due("block(5, .., 5)", x.block(5, i % a, i / a, 5), 5);
            }
        }
    }

    // ---- promises 19 and 20

    private static void letter() {
        sentence(19, "k 0 .. 12; BAD");
        Numbers asked = (x, n) -> x.letter(n[0], n[1], n[2], n[3]);
        badNumbers("bare: letter", x -> 0, asked, new int[] {0, 12, 4095, 4095},
                new int[][] {beyond(0, 0), {-1, 11, 13, LEAST, MOST}, beyond(0, 4095), beyond(0, 4095)});
        badNumbers("some: letter", BoundaryTest::some, asked, new int[] {2, 0, 0, 0},
                new int[][] {beyond(0, 2), beyond(0, 12), beyond(0, 0), beyond(0, 0)});
        badNumbers("full: letter", BoundaryTest::full, asked, new int[] {5, 12, 531440, 531440},
                new int[][] {beyond(0, 5), {-1, 11, 13, 31, LEAST, MOST}, beyond(0, 531440), beyond(0, 531440)});
        sentence(19, "GROWN(l, k): a to the k wide and high");
        for (int a = 2; a <= 3; a++) {
            TileRules x = new TileRules();
            x.letters(2, a);
            // the last place of each BLOCK is 1, the others are 0
            x.block(0, a - 1, a - 1, 1);
            x.block(1, a - 1, a - 1, 1);
            int wide = 1;
            for (int k = 0; k <= 12; k++) {
                String told = "a = " + a + ", k = " + k + ": letter ";
                due(told + "at the end", x.letter(1, k, wide - 1, wide - 1), 1);
                due(told + "at the beginning", x.letter(1, k, 0, 0), k == 0 ? 1 : 0);
                due(told + "in the north-east", x.letter(0, k, wide - 1, 0), 0);
                due(told + "in the south-west", x.letter(0, k, 0, wide - 1), 0);
                due(told + "beyond the east", x.letter(0, k, wide, 0), BAD);
                due(told + "beyond the south", x.letter(0, k, 0, wide), BAD);
                wide *= a;
            }
            due("k = 13", x.letter(0, 13, 0, 0), BAD);
        }
        sentence(19, "l itself");
        TileRules six = new TileRules();
        six.letters(6, 2);
        for (int l = 0; l < 6; l++) {
            due("letter(" + l + ", 0, 0, 0)", six.letter(l, 0, 0, 0), l);
            due("letter(" + l + ", 1, 0, 0)", six.letter(l, 1, 0, 0), 0);
        }
    }

    private static void many() {
        sentence(20, "k 0 .. 18; BAD");
        Numbers asked = (x, n) -> x.many(n[0], n[1], n[2]);
        badNumbers("bare: many", x -> 0, asked, new int[] {0, 18, 0},
                new int[][] {beyond(0, 0), beyond(0, 18), beyond(0, 0)});
        badNumbers("some: many", BoundaryTest::some, asked, new int[] {2, 0, 2},
                new int[][] {beyond(0, 2), beyond(0, 18), beyond(0, 2)});
        badNumbers("full: many", BoundaryTest::full, asked, new int[] {5, 18, 5},
                new int[][] {beyond(0, 5), beyond(0, 18), beyond(0, 5)});
        sentence(20, "How many m there are in GROWN(l, k)");
        for (int a = 2; a <= 3; a++) {
            TileRules x = new TileRules();
            x.letters(2, a);
            // 1 holds itself once, 0 holds none, so the others are all there are but one
            x.block(1, 0, 0, 1);
            long all = 1;
            for (int k = 0; k <= 18; k++) {
                due("a = " + a + ": many(0, " + k + ", 0)", x.many(0, k, 0), all);
                due("a = " + a + ": many(0, " + k + ", 1)", x.many(0, k, 1), 0);
                due("a = " + a + ": many(1, " + k + ", 1)", x.many(1, k, 1), 1);
                due("a = " + a + ": many(1, " + k + ", 0)", x.many(1, k, 0), all - 1);
                all *= a * a;
            }
        }
    }

    // ---- promises 21, 22 and 23

    private static void beside() {
        sentence(21, "BAD");
        Numbers asked = (x, n) -> x.beside(n[0], n[1], n[2], n[3]);
        badNumbers("bare: beside", x -> 0, asked, new int[] {0, 0, 0, 0},
                new int[][] {beyond(0, 0), beyond(0, 0), beyond(0, 0), beyond(0, 1)});
        badNumbers("some: beside", BoundaryTest::some, asked, new int[] {2, 2, 2, 1},
                new int[][] {beyond(0, 2), beyond(0, 2), beyond(0, 2), beyond(0, 1)});
        badNumbers("full: beside", BoundaryTest::full, asked, new int[] {5, 5, 5, 1},
                new int[][] {beyond(0, 5), beyond(0, 5), beyond(0, 5), beyond(0, 1)});
        sentence(21, "The least k: in l itself nothing lies beside it");
        due("beside(0, 0, 0, 0)", new TileRules().beside(0, 0, 0, 0), 1);
        due("beside(0, 0, 0, 1)", new TileRules().beside(0, 0, 0, 1), 1);
        sentence(21, "NONE: in none");
        Deed two = x -> x.letters(2, 3);
        refused("beside(1, 1, 1, 0)", two, x -> x.beside(1, 1, 1, 0), NONE);
        refused("beside(1, 1, 0, 0)", two, x -> x.beside(1, 1, 0, 0), NONE);
        refused("beside(0, 0, 1, 1)", two, x -> x.beside(0, 0, 1, 1), NONE);
        sentence(21, "m east of i (way 0), or south of it (1)");
        for (int a = 2; a <= 3; a++) {
            eastAndSouth(a);
        }
        sentence(21, "right beside: across two BLOCKS, not over the sides of all");
        acrossBlocks();
        sentence(21, "the least k, however late");
        int[] slow = {5555, 4004, 1111, 2222, 404, 3333};
        TileRules x = new TileRules();
        x.letters(6, 2);
        int[] digits = {1000, 100, 10, 1};
        for (int l = 0; l < 6; l++) {
            for (int i = 0; i < 4; i++) {
                x.block(l, i % 2, i / 2, slow[l] / digits[i] % 10);
            }
        }
        due("beside(0, 0, 0, 0)", x.beside(0, 0, 0, 0), 30);
    }

    /** 0 becomes rows 0 .. 0 1, and 1 stays alone: 1 comes west of 0 where two BLOCKS of 0 meet, if at all. */
    private static void eastAndSouth(int a) {
        TileRules x = new TileRules();
        TileRules turned = new TileRules();
        x.letters(2, a);
        turned.letters(2, a);
        fill(x, 1, a, 1);
        fill(turned, 1, a, 1);
        for (int i = 0; i < a; i++) {
            x.block(0, a - 1, i, 1);
            turned.block(0, i, a - 1, 1);
        }
        int[][] want = {{a == 2 ? NONE : 1, 1, a == 2 ? NONE : 2, 2}, {1, NONE, NONE, 1}};
        for (int pair = 0; pair < 4; pair++) {
            for (int way = 0; way < 2; way++) {
                String call = "a = " + a + ": beside(0, " + pair / 2 + ", " + pair % 2 + ", " + way + ")";
                due(call, x.beside(0, pair / 2, pair % 2, way), want[way][pair]);
                due("turned, " + call, turned.beside(0, pair / 2, pair % 2, 1 - way), want[way][pair]);
            }
        }
        due("beside(1, 0, 1, 0)", x.beside(1, 0, 1, 0), NONE);
        due("beside(1, 1, 1, 0)", x.beside(1, 1, 1, 0), 1);
    }

    /** 0 is 1 2 in both rows: 2 1 comes where two BLOCKS meet alone, so not before the second step. */
    private static void acrossBlocks() {
        TileRules x = new TileRules();
        x.letters(3, 2);
        for (int l = 0; l < 3; l++) {
            x.block(l, 0, 0, 1);
            x.block(l, 0, 1, 1);
            x.block(l, 1, 0, 2);
            x.block(l, 1, 1, 2);
        }
        due("beside(0, 1, 2, 0)", x.beside(0, 1, 2, 0), 1);
        due("beside(0, 2, 1, 0)", x.beside(0, 2, 1, 0), 2);
        due("beside(0, 1, 1, 1)", x.beside(0, 1, 1, 1), 1);
        due("beside(0, 1, 2, 1)", x.beside(0, 1, 2, 1), NONE);
        due("beside(0, 2, 1, 1)", x.beside(0, 2, 1, 1), NONE);
        due("beside(0, 1, 1, 0)", x.beside(0, 1, 1, 0), NONE);
        // 0 is 1 0 2 in all rows, so 1 and 2 would meet over the sides of all alone
        TileRules y = new TileRules();
        y.letters(3, 3);
        fill(y, 1, 3, 1);
        fill(y, 2, 3, 2);
        for (int i = 0; i < 3; i++) {
            y.block(0, 0, i, 1);
            y.block(0, 2, i, 2);
        }
        due("beside(0, 2, 1, 0)", y.beside(0, 2, 1, 0), NONE);
        due("beside(0, 1, 0, 0)", y.beside(0, 1, 0, 0), 1);
        due("beside(0, 0, 2, 0)", y.beside(0, 0, 2, 0), 1);
        due("beside(0, 1, 1, 0)", y.beside(0, 1, 1, 0), 2);
        due("beside(0, 1, 2, 0)", y.beside(0, 1, 2, 0), NONE);
    }

    private static void mixes() {
        sentence(22, "The least k, 1 and more");
        due("one LETTER: mixes()", new TileRules().mixes(), 1);
        sentence(22, "NONE");
        for (int n = 2; n <= 6; n++) {
            int size = n;
            refused(n + " LETTERS, all 0: mixes()", x -> x.letters(size, 2), TileRules::mixes, NONE);
            refused(n + " LETTERS in a ring: mixes()", x -> ring(x, size), TileRules::mixes, NONE);
        }
        sentence(22, "for each l");
        TileRules x = new TileRules();
        x.letters(2, 2);
        x.block(0, 1, 0, 1);
        due("0 holds both, 1 holds 0: mixes()", x.mixes(), 2);
        fill(x, 1, 2, 1);
        due("0 holds both, 1 holds itself: mixes()", x.mixes(), NONE);
        x.block(1, 1, 1, 0);
        due("both hold both: mixes()", x.mixes(), 1);
        x.letters(2, 2);
        x.block(1, 1, 0, 1);
        due("1 holds both, 0 holds itself: mixes()", x.mixes(), NONE);
        sentence(22, "each LETTER is, at whatever place of a BLOCK");
        for (int a = 2; a <= 3; a++) {
            for (int i = 0; i < a * a; i++) {
                x.letters(2, a);
                x.block(0, i % a, i / a, 1);
                due("a = " + a + ", place " + i + ": mixes()", x.mixes(), 2);
                due("a = " + a + ", place " + i + ": many(1, 2, 1)", x.many(1, 2, 1), a * a);
            }
        }
        sentence(22, "each LETTER, however late");
        // a ring with one short cut of one step mixes latest of all
        for (int n = 2; n <= 6; n++) {
            TileRules y = new TileRules();
            ring(y, n);
            y.block(n - 1, 0, 1, 1);
            due(n + " LETTERS in a ring with a short cut: mixes()", y.mixes(), (n - 1) * (n - 1) + 1);
        }
    }

    private static long ring(TileRules x, int n) {
        x.letters(n, 2);
        for (int l = 0; l < n; l++) {
            fill(x, l, 2, (l + 1) % n);
        }
        return 0;
    }

    private static void squares() {
        sentence(23, "k 0 .. 5; BAD");
        Numbers asked = (x, n) -> x.squares(n[0], n[1]);
        badNumbers("bare: squares", x -> 0, asked, new int[] {0, 5}, new int[][] {beyond(0, 0), beyond(0, 5)});
        badNumbers("some: squares", BoundaryTest::some, asked, new int[] {2, 0},
                new int[][] {beyond(0, 2), beyond(0, 5)});
        badNumbers("full: squares", BoundaryTest::full, asked, new int[] {5, 5},
                new int[][] {beyond(0, 5), beyond(0, 5)});
        sentence(23, "in l itself there is none");
        for (int a = 2; a <= 3; a++) {
            TileRules x = new TileRules();
            x.letters(6, a);
            for (int l = 0; l < 6; l++) {
                due("squares(" + l + ", 0)", x.squares(l, 0), 0);
                for (int k = 1; k <= 5; k++) {
                    due("all 0: squares(" + l + ", " + k + ")", x.squares(l, k), 1);
                }
            }
        }
        sentence(23, "How many different squares of 2 times 2");
        TileRules x = new TileRules();
        x.letters(6, 3);
        int[] nine = {0, 1, 2, 3, 4, 5, 0, 1, 3};
        for (int i = 0; i < 9; i++) {
            x.block(0, i % 3, i / 3, nine[i]);
        }
        due("a = 3: squares(0, 1)", x.squares(0, 1), 4);
        for (int a = 2; a <= 3; a++) {
            for (int kind = 0; kind < 8; kind++) {
                compareWithGrown(a, kind);
            }
        }
    }

    /** Six LETTERS with BLOCKS of all kinds, GROWN written out: its squares, and pairs for the first time. */
    private static void compareWithGrown(int a, int kind) {
        int[][] blocks = new int[6][a * a];
        TileRules x = new TileRules();
        x.letters(6, a);
        for (int l = 0; l < 6; l++) {
            for (int i = 0; i < a * a; i++) {
                int mixed = (l * l + 7 * i + l * i * (kind + 1) + i * i * kind) % 11;
                blocks[l][i] = mixed < 6 ? mixed : kind < 4 ? l : (l + 1) % 6;
                x.block(l, i % a, i / a, blocks[l][i]);
            }
        }
        String told = "a = " + a + ", kind " + kind + ": ";
        for (int l = 0; l < 6; l++) {
            int[][] grown = {{l}};
            int[][] first = new int[2][36];
            for (int k = 0; k <= 5; k++) {
                due(told + "squares(" + l + ", " + k + ")", x.squares(l, k), countSquares(grown));
                notePairs(grown, k, first);
                grown = grow(grown, blocks, a);
            }
            if (l == kind % 6) {
                comparePairs(told, x, l, first);
            }
        }
    }

    /** What is not in the first five comes later or in none. */
    private static void comparePairs(String told, TileRules x, int l, int[][] first) {
        for (int i = 0; i < 72; i++) {
            int way = i / 36;
            int west = i % 36 / 6;
            int east = i % 6;
            int got = x.beside(l, west, east, way);
            int want = first[way][i % 36];
            due(told + "beside(" + l + ", " + west + ", " + east + ", " + way + ")",
                    want == 0 && (got == NONE || got > 5) ? 0 : got, want);
        }
    }

    private static int countSquares(int[][] grown) {
        Set<Integer> seen = new HashSet<>();
        for (int y = 1; y < grown.length; y++) {
            for (int x = 1; x < grown.length; x++) {
                seen.add(1000 * grown[y - 1][x - 1] + 100 * grown[y - 1][x] + 10 * grown[y][x - 1] + grown[y][x]);
            }
        }
        return seen.size();
    }

    private static void notePairs(int[][] grown, int k, int[][] first) {
        int size = grown.length;
        for (int i = 0; i < size * size; i++) {
            int x = i % size;
            int y = i / size;
            int east = x + 1 < size ? 6 * grown[y][x] + grown[y][x + 1] : -1;
            int south = y + 1 < size ? 6 * grown[y][x] + grown[y + 1][x] : -1;
            if (east >= 0 && first[0][east] == 0) {
                first[0][east] = k;
            }
            if (south >= 0 && first[1][south] == 0) {
                first[1][south] = k;
            }
        }
    }

    private static int[][] grow(int[][] grown, int[][] blocks, int a) {
        int[][] next = new int[a * grown.length][a * grown.length];
        for (int i = 0; i < next.length * next.length; i++) {
            int x = i % next.length;
            int y = i / next.length;
            next[y][x] = blocks[grown[y / a][x / a]][y % a * a + x % a];
        }
        return next;
    }

    // ---- promises 24 to 26

    private static void turn() {
        sentence(24, "THE TURN is 1 .. 18; BAD");
        for (int n : new int[] {0, 19, -1, LEAST, MOST}) {
            refusedAnywhere("turn(" + n + ")", x -> x.turn(n), BAD);
        }
        sentence(24, "what it was");
        TileRules x = new TileRules();
        int before = 1;
        for (int i = 0; i < 18; i++) {
            int n = 18 - i * 7 % 18;
            due("turn(" + n + ")", x.turn(n), before);
            due("count(5)", x.count(5), n);
            before = n;
        }
    }

    private static void corners() {
        sentence(25, "sizes, 1 .. 18; BAD");
        for (int size : new int[] {0, 19, 32, 33, 34, 50, -1, LEAST, MOST}) {
            refusedAnywhere("corner(" + size + ")", x -> x.corner(size), BAD);
        }
        for (int size = 1; size <= 18; size++) {
            due("corner(" + size + ")", new TileRules().corner(size), 1);
        }
        sentence(25, "THERE: one has that size");
        for (int size : new int[] {2, 3, 5}) {
            refused("some: corner(" + size + ")", BoundaryTest::some, x -> x.corner(size), THERE);
        }
        for (int size : new int[] {18, 9, 6, 5, 4, 2}) {
            refused("full: corner(" + size + ")", BoundaryTest::full, x -> x.corner(size), THERE);
        }
        due("it went: corner(5)", wentAgain(5).corner(5), 1);
        sentence(25, "up to 6; FULL");
        for (int size : new int[] {1, 3, 7, 8, 10, 17}) {
            refused("full: corner(" + size + ")", BoundaryTest::full, x -> x.corner(size), FULL);
        }
        TileRules x = new TileRules();
        for (int size = 1; size <= 6; size++) {
            due("corner(" + size + ")", x.corner(size), size);
            due("count(2)", x.count(2), size);
        }
        due("corner(7)", x.corner(7), FULL);
        due("uncorner()", x.uncorner(), 5);
        due("corner(7)", x.corner(7), 6);
        due("corner(6)", x.corner(6), FULL);
        uncorner();
    }

    private static void uncorner() {
        sentence(26, "NONE");
        refused("bare: uncorner()", y -> 0, TileRules::uncorner, NONE);
        refused("one came and went: uncorner()", y -> y.corner(1) + y.uncorner(), TileRules::uncorner, NONE);
        sentence(26, "The last CORNER goes: how many are left");
        TileRules y = new TileRules();
        int[] sizes = {9, 18, 3, 1, 6, 2};
        for (int size : sizes) {
            y.corner(size);
        }
        for (int left = 5; left >= 0; left--) {
            due("uncorner()", y.uncorner(), left);
            due("count(2)", y.count(2), left);
            due("what is left: corner", left == 0 ? THERE : y.corner(sizes[left - 1]), THERE);
            due("what went: corner(" + sizes[left] + ")", y.corner(sizes[left]), left + 1);
            due("what went: uncorner()", y.uncorner(), left);
        }
        due("uncorner()", y.uncorner(), NONE);
    }

    private static TileRules wentAgain(int size) {
        TileRules x = new TileRules();
        x.corner(size);
        x.uncorner();
        return x;
    }

    // ---- promises 27, 28 and 29

    private static void rounds() {
        sentence(27, "no CORNER, no ROUND");
        TileRules x = new TileRules();
        for (int turn = 1; turn <= 18; turn++) {
            x.turn(turn);
            due("turn " + turn + ": rounds(false)", x.rounds(false), 0);
            due("turn " + turn + ": rounds(true)", x.rounds(true), 0);
        }
        sentence(27, "sizes that sum up to THE TURN");
        for (int size = 1; size <= 18; size++) {
            TileRules y = new TileRules();
            y.corner(size);
            for (int turn = 1; turn <= 18; turn++) {
                y.turn(turn);
                due(size + " in " + turn + ": rounds(false)", y.rounds(false), turn % size == 0 ? 1 : 0);
                due(size + " in " + turn + ": rounds(true)", y.rounds(true), turn % size == 0 ? 1 : 0);
                due(size + " in " + turn + ": round(true, 0, -1)", y.round(true, 0, -1),
                        turn % size == 0 ? turn / size : NONE);
            }
        }
        sentence(27, "the same if one is the other one turned");
        // rows of 1 and 2 that sum up to 1 .. 12: necklaces, and bracelets
        int[] turned = {1, 2, 2, 3, 3, 5, 5, 8, 10, 15, 19, 31};
        int[] backwards = {1, 2, 2, 3, 3, 5, 5, 8, 9, 14, 16, 26};
        TileRules z = new TileRules();
        z.corner(2);
        z.corner(1);
        for (int turn = 1; turn <= 12; turn++) {
            z.turn(turn);
            due("turn " + turn + ": rounds(false)", z.rounds(false), turned[turn - 1]);
            due("turn " + turn + ": rounds(true)", z.rounds(true), backwards[turn - 1]);
        }
        sentence(27, "(or, MIRRORED, also backwards)");
        TileRules three = new TileRules();
        three.corner(1);
        three.corner(2);
        three.corner(3);
        three.turn(6);
        due("rounds(false)", three.rounds(false), 9);
        due("rounds(true)", three.rounds(true), 8);
    }

    private static void round() {
        sentence(28, "NONE: there is none such");
        int[] wrongRounds = {-1, -2, LEAST, MOST};
        int[] wrongPlaces = {-2, -3, 18, 19, LEAST, MOST};
        for (int i = 0; i < 2; i++) {
            boolean mirrored = i == 1;
            for (int k : wrongRounds) {
                refusedAnywhere("round(" + mirrored + ", " + k + ", 0)", x -> x.round(mirrored, k, 0), NONE);
                refusedAnywhere("round(" + mirrored + ", " + k + ", -1)", x -> x.round(mirrored, k, -1), NONE);
            }
            for (int place : wrongPlaces) {
                refusedAnywhere("round(" + mirrored + ", 0, " + place + ")", x -> x.round(mirrored, 0, place), NONE);
            }
            refused("bare: round(" + mirrored + ", 0, 0)", x -> 0, x -> x.round(mirrored, 0, 0), NONE);
            refused("bare: round(" + mirrored + ", 0, -1)", x -> 0, x -> x.round(mirrored, 0, -1), NONE);
        }
        sentence(28, "Of ROUND k: size i of its row; i = -1: how many");
        // 2, 3 and 5 that sum up to 10
        int[][] rows = {{2, 2, 2, 2, 2}, {2, 2, 3, 3}, {2, 3, 2, 3}, {2, 3, 5}, {2, 5, 3}, {5, 5}};
        int[][] mirroredRows = {rows[0], rows[1], rows[2], rows[3], rows[5]};
        TileRules x = new TileRules();
        x.corner(5);
        x.corner(2);
        x.corner(3);
        x.turn(10);
        dueRows(x, false, rows);
        dueRows(x, true, mirroredRows);
        sentence(28, "a row of one, and one of eighteen");
        TileRules y = new TileRules();
        y.corner(18);
        y.corner(1);
        y.turn(18);
        int[] ones = new int[18];
        Arrays.fill(ones, 1);
        dueRows(y, false, new int[][] {ones, {18}});
        dueRows(y, true, new int[][] {ones, {18}});
    }

    private static void dueRows(TileRules x, boolean mirrored, int[][] rows) {
        due("rounds(" + mirrored + ")", x.rounds(mirrored), rows.length);
        for (int k = 0; k < rows.length; k++) {
            String call = "round(" + mirrored + ", " + k + ", ";
            due(call + "-1)", x.round(mirrored, k, -1), rows[k].length);
            for (int i = 0; i < rows[k].length; i++) {
                due(call + i + ")", x.round(mirrored, k, i), rows[k][i]);
            }
            due(call + rows[k].length + ")", x.round(mirrored, k, rows[k].length), NONE);
            due(call + "-2)", x.round(mirrored, k, -2), NONE);
        }
        due("round(" + mirrored + ", " + rows.length + ", -1)", x.round(mirrored, rows.length, -1), NONE);
        due("round(" + mirrored + ", " + rows.length + ", 0)", x.round(mirrored, rows.length, 0), NONE);
    }

    private static void count() {
        sentence(29, "BAD");
        for (int what : new int[] {-1, 6, 7, LEAST, MOST}) {
            refusedAnywhere("count(" + what + ")", x -> x.count(what), BAD);
        }
        sentence(29, "0 TILES, 1 PIECES, 2 CORNERS, 3 LETTERS, 4 cells of THE BOARD (HOLES, too), 5 THE TURN");
        int[][] want = {{0, 0, 0, 1, 1, 1}, {3, 3, 3, 3, 12, 9}, {8, 6, 6, 6, 20, 18}};
        TileRules[] objects = {new TileRules(), new TileRules(), new TileRules()};
        some(objects[1]);
        full(objects[2]);
        for (int i = 0; i < 18; i++) {
            due("count(" + i % 6 + ")", objects[i / 6].count(i % 6), want[i / 6][i % 6]);
        }
        objects[1].board(4, 2, 255);
        due("all HOLES: count(4)", objects[1].count(4), 8);
    }
}
