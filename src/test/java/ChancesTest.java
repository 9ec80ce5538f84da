/** Promises 26 to 29: two at one PIECE, at rest; LIGHT by chance; YEARS by THE SEED. */
public final class ChancesTest {
    public static void main(String[] args) {
        resting();
        glinting();
        seeding();
        years();
        Due.end("ChancesTest");
    }

    private static void rests(PearlMother mother, int piece, int count, int first) {
        Due.due("rests(" + piece + ", 0, 1, 0)", mother.rests(piece, 0, 1, 0), count);
        Due.due("rests(" + piece + ", 0, 1, 1)", mother.rests(piece, 0, 1, 1), first);
    }

    private static void resting() {
        PearlMother mother = Due.coast("P0H0H0H1H3C0000C0210C0110C0410C0010C0200");
        rests(mother, 0, 1, 0);
        // 2 short: both tilt and it shows, or neither does
        rests(mother, 1, 2, 0);
        // 1 short: either one tilts, the other need not
        rests(mother, 2, 2, 1);
        rests(mother, 3, 1, 0);
        rests(mother, 4, 1, 0);
        // 1 short of a PLAIN one that also shows when both tilt
        rests(mother, 5, 2, 1);
        // a CHILD sees it already; a PLAIN one tilts alone
        Due.due("rests(2, 0, 2, 0)", mother.rests(2, 0, 2, 0), 1);
        Due.due("rests(2, 0, 2, 1)", mother.rests(2, 0, 2, 1), 10);
        Due.due("rests(2, 2, 0, 1)", mother.rests(2, 2, 0, 1), 1);
        // to a CHILD it shows a step earlier and a step later than to a PLAIN one
        rests(Due.coast("P0H0H1C0110"), 0, 1, 10);
        rests(Due.coast("P0H1H0C0110"), 0, 1, 1);
        rests(Due.coast("P0H0H1C0210"), 0, 0, PearlMother.NONE);
        rests(Due.coast("P0H1H0C0210"), 0, 0, PearlMother.NONE);
        rests(Due.coast("P0H3H3C0010"), 0, 1, 0);
        PearlMother chase = Due.coast("P0H0H1C0710C0310");
        chase.tilt(0, false);
        chase.tilt(0, false);
        Due.due("rests, tilted", chase.rests(0, 0, 1, 0), 1);
        Due.due("nothing is changed", chase.piece(0, 3), 6);
        Due.due("rests(6, 0, 1, 0)", mother.rests(6, 0, 1, 0), PearlMother.UNKNOWN);
        Due.due("rests(-1, 0, 0, 5)", mother.rests(-1, 0, 0, 5), PearlMother.UNKNOWN);
        Due.due("rests(0, 4, 4, 0)", mother.rests(0, 4, 4, 0), PearlMother.UNKNOWN);
        Due.due("rests(0, -1, 1, 0)", mother.rests(0, -1, 1, 0), PearlMother.UNKNOWN);
        Due.due("rests(0, 0, 4, 9)", mother.rests(0, 0, 4, 9), PearlMother.UNKNOWN);
        Due.due("rests(0, 0, -1, 0)", mother.rests(0, 0, -1, 0), PearlMother.UNKNOWN);
        Due.due("rests(0, 1, 1, 0)", mother.rests(0, 1, 1, 0), PearlMother.BAD);
        Due.due("rests(0, 0, 1, 2)", mother.rests(0, 0, 1, 2), PearlMother.BAD);
        Due.due("rests(0, 0, 1, -1)", mother.rests(0, 0, 1, -1), PearlMother.BAD);
    }

    private static void glints(PearlMother mother, int part, int n, int x, int above, int below) {
        String call = "glints(0, " + part + ", " + n + ", " + x;
        Due.due(call + ", true)", mother.glints(0, part, n, x, true), above);
        Due.due(call + ", false)", mother.glints(0, part, n, x, false), below);
    }

    private static void glinting() {
        PearlMother mother = Due.coast("P0H0H3C0010C1110C2310C3710C1001");
        glints(mother, 0, 1, 0, 1, 1);
        glints(mother, 0, 6, 10, 1, 1);
        glints(mother, 1, 1, 0, 0, 1);
        glints(mother, 1, 1, 3, 3, 10);
        glints(mother, 1, 1, 4, 2, 5);
        glints(mother, 1, 2, 5, 3, 4);
        glints(mother, 1, 6, 10, 1, 1);
        glints(mother, 1, 6, 9, 999999, 1000000);
        glints(mother, 2, 2, 10, 0, 1);
        glints(mother, 2, 3, 10, 1, 1);
        glints(mother, 2, 3, 5, 1, 8);
        glints(mother, 2, 4, 1, 37, 10000);
        glints(mother, 3, 6, 10, 0, 1);
        glints(mother, 4, 6, 5, 0, 1);
        Due.due("glints of the BLIND", mother.glints(1, 1, 6, 10, true), 0);
        Due.due("nothing is changed", mother.about(2), 0);
        Due.due("glints(2, ..)", mother.glints(2, 9, 9, 99, true), PearlMother.UNKNOWN);
        Due.due("glints(-1, ..)", mother.glints(-1, 0, 1, 0, true), PearlMother.UNKNOWN);
        Due.due("part 5", mother.glints(0, 5, 1, 0, true), PearlMother.BAD);
        Due.due("part -1", mother.glints(0, -1, 1, 0, true), PearlMother.BAD);
        Due.due("n 0", mother.glints(0, 0, 0, 0, true), PearlMother.BAD);
        Due.due("n 7", mother.glints(0, 0, 7, 0, true), PearlMother.BAD);
        Due.due("x -1", mother.glints(0, 0, 1, -1, false), PearlMother.BAD);
        Due.due("x 11", mother.glints(0, 0, 1, 11, false), PearlMother.BAD);
    }

    private static void seeding() {
        PearlMother mother = new PearlMother();
        Due.due("seed at first", mother.seed(Long.MIN_VALUE), 0);
        Due.due("seed", mother.seed(-7), Long.MIN_VALUE);
        Due.due("seed", mother.seed(0), -7);
        mother.years(1);
        Due.due("seed behind a year", mother.seed(0), 1442695040888963407L);
        mother.years(2);
        Due.due("seed behind two", mother.seed(0),
                1442695040888963407L * 6364136223846793005L + 1442695040888963407L);
        mother.seed(4);
        Due.due("years(0)", mother.years(0), PearlMother.BAD);
        Due.due("years(31)", mother.years(31), PearlMother.BAD);
        Due.due("years(-1)", mother.years(-1), PearlMother.BAD);
        Due.due("a refused year leaves THE SEED", mother.seed(4), 4);
    }

    /** A seed whose next lot is this one. */
    private static long seedFor(int lot) {
        for (long seed = 0; seed < 100000; seed++) {
            long then = seed * 6364136223846793005L + 1442695040888963407L;
            if ((then >>> 33) % 18 == lot) {
                return seed;
            }
        }
        return -1;
    }

    private static void years() {
        PearlMother mother = Due.coast("P0H0H0H2C2110C2711C2022C0000");
        for (int lot = 0; lot < 18; lot++) {
            mother.seed(seedFor(lot));
            int want = lot == 1 || lot == 2 || lot >= 12 ? 2 : 1;
            Due.due("years(1) by lot " + lot, mother.years(1), want);
        }
        PearlMother last = Due.coast("P0H0C0000C0000C0000C2110");
        for (int lot = 0; lot < 18; lot++) {
            last.seed(seedFor(lot));
            Due.due("years(1) of the fourth PIECE by lot " + lot, last.years(1), lot == 7 || lot >= 12 ? 1 : 0);
        }
        Due.due("nothing but THE SEED is changed", mother.about(2), 0);
        Due.due("THE HOUR", mother.about(3), 0);
        Due.due("TILT", mother.piece(0, 3), 0);
        Due.due("ACTS", mother.about(6), 0);
        PearlMother one = Due.coast("P0H0C2010");
        PearlMother other = Due.coast("P0H0C2010");
        int together = 0;
        for (int time = 0; time < 30; time++) {
            together += other.years(1) >= 0 ? 1 : 0;
        }
        one.years(30);
        Due.due("years(1), 30 times", together, 30);
        Due.due("THE SEED goes on by each", one.seed(0), other.seed(0));
        PearlMother gamblers = Due.coast("P0H2H2H3C2400C2411C2402");
        Due.due("years(30) of two GAMBLERS", gamblers.years(30), 60);
    }
}
