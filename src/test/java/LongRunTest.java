import java.lang.management.ManagementFactory;
import java.util.Random;

/**
 * Runs of 512 calls with numbers in and out of their bounds. No call may throw; what is refused
 * changes nothing; what is only asked changes nothing; the same calls give the same answers; and
 * all that a run makes stays small.
 */
public final class LongRunTest {
    private static final int CALLS = 512, KINDS = 28;
    private static final long MOST_BYTES = 4_000_000;

    private static int checks = 0;
    private static int wrong = 0;

    private static void due(String what, long got, long want) {
        checks++;
        if (got != want) {
            wrong++;
            System.out.println(what + " answered " + got + ", due is " + want);
        }
    }

    public static void main(String[] args) {
        Random chance = new Random(1115);
        for (int run = 0; run < 120; run++) {
            checkRun(run, chance);
        }
        System.out.println("LongRunTest: " + checks + " checks, " + wrong + " wrong");
        if (wrong != 0) {
            System.exit(1);
        }
    }

    private static void checkRun(int run, Random chance) {
        TileRules all = new TileRules();
        TileRules again = new TileRules();
        TileRules onlyChanges = new TileRules();
        com.sun.management.ThreadMXBean room = (com.sun.management.ThreadMXBean) ManagementFactory.getThreadMXBean();
        long thread = Thread.currentThread().getId();
        long bytes = 0;
        for (int i = 0; i < CALLS; i++) {
            int kind = run % 3 == 0 ? chance.nextInt(KINDS) : kindThatBuilds(chance);
            int[] n = new int[5];
            for (int j = 0; j < 5; j++) {
                n[j] = number(chance, run);
            }
            long before = room.getThreadAllocatedBytes(thread);
            long got = call(all, kind, n);
            bytes += room.getThreadAllocatedBytes(thread) - before;
            due("run " + run + ", call " + i + ": kind " + kind + " again", call(again, kind, n), got);
            if (changes(kind) && got >= 0) {
                due("run " + run + ", call " + i + ": kind " + kind + " alone", call(onlyChanges, kind, n), got);
            }
        }
        due("run " + run + ": too many bytes", bytes > MOST_BYTES ? bytes : 0, 0);
        compare(run, all, onlyChanges);
    }

    private static int number(Random chance, int run) {
        switch (chance.nextInt(run % 2 == 0 ? 12 : 60)) {
            case 0: return chance.nextInt();
            case 1: return -1 - chance.nextInt(4);
            case 2: return Integer.MAX_VALUE - chance.nextInt(3);
            case 3: return 1 << chance.nextInt(32);
            case 4: return chance.nextInt(40);
            default: return chance.nextInt(1 + chance.nextInt(7));
        }
    }

    private static int kindThatBuilds(Random chance) {
        int[] builders = {0, 0, 0, 7, 7, 7, 9, 15, 16, 16, 16, 16, 22, 23, 23, 23};
        return chance.nextBoolean() ? builders[chance.nextInt(builders.length)] : chance.nextInt(KINDS);
    }

    private static boolean changes(int kind) {
        return kind == 0 || kind == 1 || kind >= 7 && kind <= 10 || kind == 15 || kind == 16
                || kind >= 22 && kind <= 24;
    }

    private static long call(TileRules x, int kind, int[] n) {
        switch (kind) {
            case 0: return x.tile(n[0], n[1], n[2], n[3]);
            case 1: return x.untile();
            case 2: return x.fillings(n[0], n[1], n[2] % 2 == 0);
            case 3: return x.laid(n[0], n[1], n[4] % 2 == 0, n[2], n[3]);
            case 4: return x.repeats();
            case 5: return x.radius();
            case 6: return x.middle(n[0]);
            case 7: return x.piece(pieceOf(n));
            case 8: return x.unpiece();
            case 9: return x.board(n[0], n[1], n[2] * (n[3] & 1));
            case 10: return x.may(n[0], n[1] % 2 == 0);
            case 11: return x.placements(n[0]);
            case 12: return x.covers(n[0]);
            case 13: return x.cover(n[0], n[1], n[2], n[3]);
            case 14: return x.fewest(n[0]);
            case 15: return x.letters(n[0], n[1]);
            case 16: return x.block(n[0], n[1], n[2], n[3]);
            case 17: return x.letter(n[0], n[1], n[2], n[3]);
            case 18: return x.many(n[0], n[1], n[2]);
            case 19: return x.beside(n[0], n[1], n[2], n[3]);
            case 20: return x.mixes();
            case 21: return x.squares(n[0], n[1]);
            case 22: return x.turn(n[0] + n[1] + n[2]);
            case 23: return x.corner(n[0]);
            case 24: return x.uncorner();
            case 25: return x.rounds(n[0] % 2 == 0);
            case 26: return x.round(n[0] % 2 == 0, n[1], n[2]);
            default: return x.count(n[0]);
        }
    }

    private static int pieceOf(int[] n) {
        int[] known = {1, 3, 33, 7, 35, 39, 99, 71, 15, 31, 1082401, 167, 1 << 24};
        return n[0] >= 0 && n[0] < 6 ? known[Math.floorMod(n[1] + n[2], known.length)] : n[0];
    }

    private static void compare(int run, TileRules x, TileRules y) {
        String told = "run " + run + ", at the end: ";
        for (int i = -1; i < 8; i++) {
            due(told + "count", x.count(i), y.count(i));
            due(told + "middle", x.middle(i), y.middle(i));
            due(told + "placements", x.placements(i), y.placements(i));
            due(told + "covers", x.covers(i), y.covers(i));
            due(told + "fewest", x.fewest(i), y.fewest(i));
            due(told + "squares", x.squares(i, 3), y.squares(i, 3));
            due(told + "many", x.many(0, 9, i), y.many(0, 9, i));
            due(told + "round", x.round(true, 2 * i, 0), y.round(true, 2 * i, 0));
            due(told + "cover", x.cover(1, i, 0, 1), y.cover(1, i, 0, 1));
        }
        due(told + "fillings", x.fillings(3, 4, true), y.fillings(3, 4, true));
        due(told + "fillings", x.fillings(3, 4, false), y.fillings(3, 4, false));
        due(told + "repeats", x.repeats(), y.repeats());
        due(told + "mixes", x.mixes(), y.mixes());
        due(told + "rounds", x.rounds(false), y.rounds(false));
        due(told + "turns", x.may(0, true), y.may(0, true));
        due(told + "mirrors", x.may(1, true), y.may(1, true));
        for (int kind : new int[] {1, 8, 24}) {
            for (int i = 0; i < 9; i++) {
                due(told + "kind " + kind, call(x, kind, null), call(y, kind, null));
            }
        }
    }
}
