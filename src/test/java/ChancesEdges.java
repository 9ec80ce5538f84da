import java.math.BigInteger;

/** Sentences of the terms on RESTS, GLINTS and YEARS, and promises 26 to 29. */
final class ChancesEdges {
    private static final int TERMS = Sentences.TERMS;
    private static final int NONE = PearlMother.NONE;
    private static final int[] WRONG = {Integer.MIN_VALUE, -1, 2, 4, 6, 256, Integer.MAX_VALUE};
    private static final BigInteger TIMES = new BigInteger("6364136223846793005");
    private static final BigInteger MORE = new BigInteger("1442695040888963407");
    private static final BigInteger WHOLE = BigInteger.ONE.shiftLeft(64);

    private ChancesEdges() {
    }

    static void run(Sentences doc) {
        doc.says(TERMS, "RESTS of two HOLDERS at a PIECE: each tilts it one more (1) or not (0), both together add;",
                ChancesEdges::bothAdd);
        doc.says(TERMS, "to each it has 2, if it would show to it then, less 1 if it tilts:", ChancesEdges::toEach);
        doc.says(TERMS, "pairs in which neither has more by another choice alone: how many;", ChancesEdges::howMany);
        doc.says(TERMS, "the first one (10 times the one and the other);", ChancesEdges::firstPair);
        doc.says(TERMS, "NONE.", () -> rests("P0H0H1C0210", 0, NONE));
        glints(doc);
        years(doc);

        doc.says(26, "RESTS: how many (what = 0),", () -> Due.due("rests", rest("P0H0H0C0110", 0), 2));
        doc.says(26, "the first one (1);", () -> Due.due("rests", rest("P0H0H0C0110", 1), 1));
        doc.says(26, "NONE.", () -> {
            Due.due("rests, the first one of none", rest("P0H1H0C0210", 1), NONE);
            Due.due("rests, how many", rest("P0H1H0C0210", 0), 0);
        });
        doc.says(26, "UNKNOWN: piece, holder, other;", ChancesEdges::restsUnknown);
        doc.says(26, "BAD: both are one, what.", ChancesEdges::restsBad);
        doc.says(27, "GLINTS.", () -> glint("P0H0C0110", 0, 2, 5, 3, 4));
        doc.says(27, "UNKNOWN: holder;", ChancesEdges::glintsUnknown);
        doc.says(27, "BAD: part, n, x.", ChancesEdges::glintsBad);
        doc.says(28, "THE SEED is v: what it was.", ChancesEdges::seed);
        doc.says(29, "YEARS.", () -> Due.due("years(30)", Due.coast("P0H2C2000").years(30), 30));
        doc.says(29, "BAD: m.", ChancesEdges::yearsBad);
    }

    private static int rest(String coast, int what) {
        return Due.coast(coast).rests(0, 0, 1, what);
    }

    private static void rests(String coast, int count, int first) {
        Due.due("rests of " + coast + ", how many", rest(coast, 0), count);
        Due.due("rests of " + coast + ", the first one", rest(coast, 1), first);
    }

    private static void bothAdd() {
        // it shows by 0, by 1, by 2 TILTS, by more than two can
        int[] counts = {1, 2, 2, 1, 1, 1, 1, 1};
        int[] first = {0, 1, 0, 0, 0, 0, 0, 0};
        for (int light = 0; light < 8; light++) {
            for (int steps = 0; steps < 8; steps++) {
                rests("P" + light + "H0H0C0" + (light + steps) % 8 + "10", counts[steps], first[steps]);
            }
        }
        PearlMother mother = Due.coast("P7H0H0C0010");
        mother.tilt(0, false);
        Due.due("from its TILT, round", mother.rests(0, 0, 1, 1), 0);
        Due.due("from its TILT, round", mother.rests(0, 0, 1, 0), 2);
        mother.tilt(0, true);
        mother.tilt(0, true);
        Due.due("it shows", mother.rests(0, 0, 1, 0), 1);
    }

    private static void toEach() {
        // a PLAIN one tilts for both; who need not, does not
        rests("P0H0H1C0110", 1, 10);
        rests("P0H1H0C0110", 1, 1);
        // a BLIND one never tilts; the other does if it shows by one
        rests("P0H3H0C0110", 1, 1);
        rests("P0H0H3C0110", 1, 10);
        rests("P0H3H3C0110", 1, 0);
        rests("P0H0H3C0210", 1, 0);
        // a GAMBLER has HER LOOK without tilting
        rests("P0H2H0C2110", 1, 1);
        rests("P0H2H0C1110", 2, 1);
        // who holds it does not matter
        PearlMother mother = Due.coast("P0H3H0H1C0110");
        Due.due("rests of two that hold it not", mother.rests(0, 1, 2, 1), 10);
        // it shows without tilting, and no longer by one: nobody has more by it
        rests("P0H0H0C0010", 1, 0);
        rests("P1H0H0C0000", 1, 0);
    }

    private static void howMany() {
        rests("P0H0H1C0210", 0, NONE);
        rests("P0H0H0C0010", 1, 0);
        rests("P0H0H0C0110", 2, 1);
        rests("P0H0H0C0210", 2, 0);
    }

    private static void firstPair() {
        rests("P0H0H0C0210", 2, 0);
        rests("P0H0H0C0110", 2, 1);
        rests("P0H0H1C0110", 1, 10);
        PearlMother mother = Due.coast("P0H0H1C0110");
        Due.due("the other way about", mother.rests(0, 1, 0, 1), 1);
    }

    private static void restsUnknown() {
        for (int none : WRONG) {
            for (int what : new int[] {0, 1, 2, -1}) {
                Whole.leaves("rests(" + none + ", 0, 1, " + what + ")", Whole::busy,
                        one -> one.rests(none, 0, 1, what), PearlMother.UNKNOWN);
                Whole.leaves("rests(0, " + none + ", 1, " + what + ")", Whole::busy,
                        one -> one.rests(0, none, 1, what), PearlMother.UNKNOWN);
                Whole.leaves("rests(0, 0, " + none + ", " + what + ")", Whole::busy,
                        one -> one.rests(0, 0, none, what), PearlMother.UNKNOWN);
            }
            Whole.leaves("rests(" + none + ", 0, 0, 0)", Whole::busy, one -> one.rests(none, 0, 0, 0),
                    PearlMother.UNKNOWN);
            Whole.leaves("rests(0, both " + none + ", 0)", Whole::busy, one -> one.rests(0, none, none, 0),
                    PearlMother.UNKNOWN);
        }
        Due.due("of a new object", new PearlMother().rests(0, 0, 0, 0), PearlMother.UNKNOWN);
    }

    private static void restsBad() {
        for (int holder = 0; holder < 2; holder++) {
            int both = holder;
            for (int what : new int[] {0, 1, 2, -1}) {
                Whole.leaves("rests(0, both " + both + ", " + what + ")", Whole::busy,
                        one -> one.rests(0, both, both, what), PearlMother.BAD);
            }
        }
        for (int what : new int[] {Integer.MIN_VALUE, -1, 2, 256, Integer.MAX_VALUE}) {
            Whole.leaves("rests(1, 1, 0, " + what + ")", Whole::busy, one -> one.rests(1, 1, 0, what),
                    PearlMother.BAD);
        }
    }

    /** GLINTS of the first HOLDER. */
    private static void glint(String coast, int part, int n, int x, int above, int below) {
        PearlMother mother = Due.coast(coast);
        String call = coast + ": glints(0, " + part + ", " + n + ", " + x;
        Due.due(call + ", true)", mother.glints(0, part, n, x, true), above);
        Due.due(call + ", false)", mother.glints(0, part, n, x, false), below);
    }

    private static void glints(Sentences doc) {
        doc.says(TERMS, "GLINTS: in each of n HOURS (1 .. 6)", () -> {
            // a DULL one that LIGHT comes to by as many steps: in n HOURS, always going on
            for (int steps = 0; steps <= 7; steps++) {
                for (int n = 1; n <= 6; n++) {
                    glint("P0H0C0" + steps + "10", 0, n, 10, steps <= n ? 1 : 0, 1);
                }
            }
            for (int n = 1; n <= 6; n++) {
                glint("P0H0C0110", 0, n, 5, (1 << n) - 1, 1 << n);
                glint("P0H0C0" + n + "10", 0, n, 5, 1, 1 << n);
            }
        });
        doc.says(TERMS, "LIGHT goes on by x tenths (0 .. 10) only, by itself (else it stays):", () -> {
            int[] above = {0, 1, 1, 3, 2, 1, 3, 7, 4, 9, 1};
            int[] below = {1, 10, 5, 10, 5, 2, 5, 10, 5, 10, 1};
            for (int x = 0; x <= 10; x++) {
                glint("P0H0C0110", 0, 1, x, above[x], below[x]);
                glint("P7H0C0010", 0, 1, x, above[x], below[x]);
            }
            glint("P0H0C0110", 0, 6, 0, 0, 1);
            glint("P0H0C0610", 0, 6, 1, 1, 1000000);
            glint("P0H0C0610", 0, 6, 2, 1, 15625);
            glint("P0H0C0610", 0, 6, 9, 531441, 1000000);
            glint("P0H0C0110", 0, 6, 1, 468559, 1000000);
            glint("P0H0C0110", 0, 6, 9, 999999, 1000000);
        });
        doc.says(TERMS, "that a HOLDER sees a PART in any of them (at their ends),", () -> {
            // at the first one's end, and gone at the next ones'
            glint("P0H0C0110", 0, 6, 10, 1, 1);
            glint("P0H0C0110", 0, 2, 5, 3, 4);
            glint("P0H0C0710", 0, 6, 10, 0, 1);
            glint("P0H0C4110C0010", 0, 1, 5, 1, 1);
            glint("P0H0C0610C0210", 0, 2, 5, 1, 4);
            glint("P0H0H0C0111", 0, 6, 10, 0, 1);
            glint("P0H3C0110", 0, 6, 10, 0, 1);
        });
        doc.says(TERMS, "or now: a FRACTION.", () -> {
            for (int x = 0; x <= 10; x++) {
                for (int n = 1; n <= 6; n++) {
                    glint("P0H0C0010", 0, n, x, 1, 1);
                }
            }
            glint("P0H0C0700", 0, 6, 10, 1, 1);
            glint("P0H3C0010", 0, 6, 0, 0, 1);
        });
    }

    private static void glintsUnknown() {
        for (int none : WRONG) {
            Whole.leaves("glints(" + none + ", ..)", Whole::busy, one -> one.glints(none, 0, 1, 0, true),
                    PearlMother.UNKNOWN);
            Whole.leaves("glints(" + none + ", 5, ..)", Whole::busy, one -> one.glints(none, 5, 1, 0, true),
                    PearlMother.UNKNOWN);
            Whole.leaves("glints(" + none + ", .., 0, ..)", Whole::busy, one -> one.glints(none, 0, 0, 0, false),
                    PearlMother.UNKNOWN);
            Whole.leaves("glints(" + none + ", .., 11, ..)", Whole::busy, one -> one.glints(none, 0, 1, 11, false),
                    PearlMother.UNKNOWN);
        }
        Due.due("of a new object", new PearlMother().glints(0, 0, 1, 0, true), PearlMother.UNKNOWN);
    }

    private static void glintsBad() {
        for (boolean upper : new boolean[] {true, false}) {
            for (int part : new int[] {Integer.MIN_VALUE, -1, 5, 256, Integer.MAX_VALUE}) {
                Whole.leaves("part " + part, Whole::busy, one -> one.glints(1, part, 1, 0, upper), PearlMother.BAD);
            }
            for (int n : new int[] {Integer.MIN_VALUE, -1, 0, 7, 256, Integer.MAX_VALUE}) {
                Whole.leaves("n " + n, Whole::busy, one -> one.glints(1, 4, n, 10, upper), PearlMother.BAD);
            }
            for (int x : new int[] {Integer.MIN_VALUE, -1, 11, 256, Integer.MAX_VALUE}) {
                Whole.leaves("x " + x, Whole::busy, one -> one.glints(1, 4, 6, x, upper), PearlMother.BAD);
            }
        }
    }

    private static void seed() {
        PearlMother mother = new PearlMother();
        long was = 0;
        for (long v : new long[] {1, -1, Long.MAX_VALUE, Long.MIN_VALUE, 1L << 32, 0, 7}) {
            Due.due("seed(" + v + ")", mother.seed(v), was);
            was = v;
        }
        Due.due("seed(7)", mother.seed(7), 7);
        Whole.changes("seed(5)", Whole::busy, one -> one.seed(5), Whole.SEED);
        Whole.changes("seed(77)", Whole::busy, one -> one.seed(77));
    }

    private static BigInteger then(BigInteger x) {
        return x.multiply(TIMES).add(MORE).mod(WHOLE);
    }

    /** The seed that becomes x. */
    private static long seedAhead(BigInteger x) {
        return x.subtract(MORE).multiply(TIMES.modInverse(WHOLE)).mod(WHOLE).longValue();
    }

    /** The seed that becomes one whose upper 31 bits are these, the lower ones all 0 or all 1. */
    private static long seedFor(long upper, boolean ones) {
        BigInteger x = BigInteger.valueOf(upper).shiftLeft(33);
        return seedAhead(ones ? x.add(BigInteger.ONE.shiftLeft(33)).subtract(BigInteger.ONE) : x);
    }

    private static void years(Sentences doc) {
        doc.says(TERMS, "YEARS by THE SEED: m times (1 .. 30)", ChancesEdges::mTimes);
        doc.says(TERMS, "x (THE SEED, a long; 0 at first)", () -> {
            PearlMother mother = new PearlMother();
            mother.years(1);
            Due.due("THE SEED, once from 0", mother.seed(0), 1442695040888963407L);
        });
        doc.says(TERMS, "becomes x times 6364136223846793005 and 1442695040888963407 (64 bits, wrapping);",
                ChancesEdges::wrapping);
        doc.says(TERMS, "what is left of its upper 31 bits by 18:", ChancesEdges::upperBits);
        doc.says(TERMS, "0 .. 11 that by 2 (down) is a PIECE that is TILTED, more if 1 is left, less if 0,",
                ChancesEdges::lotsOfPieces);
        doc.says(TERMS, "if there is such a one;", ChancesEdges::ifThereIsSuchAOne);
        doc.says(TERMS, "12 .. 17 AN HOUR:", ChancesEdges::lotsOfHours);
        doc.says(TERMS, "how many HOLDERS see HER LOOK, each time, together.", ChancesEdges::eachTimeTogether);
        doc.says(TERMS, "(Nothing changes but THE SEED.)", () -> {
            Whole.changes("years(1)", Whole::busy, one -> one.years(1), Whole.SEED);
            Whole.changes("years(30)", Whole::full, one -> one.years(30), Whole.SEED);
            Whole.changes("years(30) of a new object", PearlMother::new, one -> one.years(30), Whole.SEED);
        });
    }

    private static void mTimes() {
        for (int m = 1; m <= 30; m++) {
            PearlMother mother = Due.coast("P0H2C2000");
            Due.due("years(" + m + ")", mother.years(m), m);
            BigInteger x = BigInteger.ZERO;
            for (int time = 0; time < m; time++) {
                x = then(x);
            }
            Due.due("THE SEED", mother.seed(0), x.longValue());
        }
        Due.due("years(0)", new PearlMother().years(0), PearlMother.BAD);
        Due.due("years(31)", new PearlMother().years(31), PearlMother.BAD);
    }

    private static void wrapping() {
        for (long seed : new long[] {0, 1, -1, 2, Long.MAX_VALUE, Long.MIN_VALUE, 1L << 32, 1L << 62, 123456789}) {
            PearlMother mother = new PearlMother();
            mother.seed(seed);
            mother.years(1);
            Due.due("THE SEED from " + seed, mother.seed(0), then(BigInteger.valueOf(seed)).longValue());
        }
    }

    /** One year by a lot: 1 if the first PIECE, DULL, is TILTED more (or an hour passes), to its own ANGLE 1. */
    private static int tiltedMore(long seed) {
        PearlMother mother = Due.coast("P0H0C2110");
        mother.seed(seed);
        return mother.years(1);
    }

    private static void upperBits() {
        long most = (1L << 31) - 1;
        for (boolean ones : new boolean[] {false, true}) {
            // 0, 18 and so on leave 0; 1 and 19 leave 1; the most leaves 1, one less leaves 0
            Due.due("0", tiltedMore(seedFor(0, ones)), 0);
            Due.due("1", tiltedMore(seedFor(1, ones)), 1);
            Due.due("11", tiltedMore(seedFor(11, ones)), 0);
            Due.due("12", tiltedMore(seedFor(12, ones)), 1);
            Due.due("17", tiltedMore(seedFor(17, ones)), 1);
            Due.due("18", tiltedMore(seedFor(18, ones)), 0);
            Due.due("19", tiltedMore(seedFor(19, ones)), 1);
            Due.due("20", tiltedMore(seedFor(20, ones)), 0);
            Due.due("the most", tiltedMore(seedFor(most, ones)), 1);
            Due.due("one less", tiltedMore(seedFor(most - 1, ones)), 0);
            // the highest bit set: 1073741824 leaves 10, and 9 more leave 1
            Due.due("the highest bit", tiltedMore(seedFor(1L << 30, ones)), 0);
            Due.due("the highest bit, and 9", tiltedMore(seedFor((1L << 30) + 9, ones)), 1);
        }
    }

    /** HER LOOK in one of six, DULL, at this ANGLE: one year by each lot. */
    private static void lots(int piece, int own, int wantedLot, int hours) {
        StringBuilder coast = new StringBuilder("P0H0");
        for (int one = 0; one < 6; one++) {
            coast.append(one == piece ? "C2" + own + "10" : "C0" + own + "10");
        }
        PearlMother mother = Due.coast(coast.toString());
        for (int lot = 0; lot < 18; lot++) {
            mother.seed(seedFor(18 * 5 + lot, lot % 2 == 0));
            int want = lot == wantedLot ? 1 : lot >= 12 ? hours : 0;
            Due.due("lot " + lot + ", PIECE " + piece + " of " + own, mother.years(1), want);
        }
    }

    private static void lotsOfPieces() {
        for (int piece = 0; piece < 6; piece++) {
            lots(piece, 1, 2 * piece + 1, 1);
            lots(piece, 7, 2 * piece, 0);
        }
    }

    private static void ifThereIsSuchAOne() {
        for (int pieces = 1; pieces <= 6; pieces++) {
            // all at their own ANGLE, and HER LOOK in the last: what is not there changes nothing
            PearlMother mother = Due.coast("P0H0" + "C0010".repeat(pieces - 1) + "C2010");
            for (int lot = 0; lot < 12; lot++) {
                mother.seed(seedFor(lot, false));
                Due.due("lot " + lot + " of " + pieces, mother.years(1), lot / 2 == pieces - 1 ? 0 : 1);
            }
        }
        PearlMother nobody = new PearlMother();
        for (int lot = 0; lot < 18; lot++) {
            nobody.seed(seedFor(lot, false));
            Due.due("lot " + lot + " of nobody", nobody.years(1), 0);
        }
    }

    private static void lotsOfHours() {
        for (int light = 0; light < 8; light++) {
            PearlMother mother = Due.coast("P" + light + "H0C2" + (light + 1) % 8 + "10");
            for (int lot = 2; lot < 18; lot++) {
                mother.seed(seedFor(lot, true));
                Due.due("lot " + lot + " from LIGHT " + light, mother.years(1), lot >= 12 ? 1 : 0);
            }
        }
    }

    private static void eachTimeTogether() {
        Due.due("four, 30 times", Due.coast("P0H2H2H2H2C2000C2001C2002C2003").years(30), 120);
        Due.due("one that holds two counts once", Due.coast("P0H2C2000C2000").years(30), 30);
        Due.due("another PART", Due.coast("P0H2C1000").years(30) - Due.coast("P0H0C1000").years(30), 0);
        Due.due("a BLIND one", Due.coast("P0H3C2000").years(30), 0);
        // what befalls stays for the years behind it, and begins from how things are
        for (int m = 1; m <= 30; m++) {
            PearlMother mother = Due.coast("P7H0C2110");
            mother.tilt(0, true);
            mother.seed(m);
            BigInteger x = BigInteger.valueOf(m);
            int at = 0;
            int want = 0;
            for (int time = 0; time < m; time++) {
                x = then(x);
                int lot = x.shiftRight(33).mod(BigInteger.valueOf(18)).intValue();
                at += lot == 0 ? 7 : lot == 1 || lot >= 12 ? 1 : 0;
                want += at % 8 == 1 ? 1 : 0;
            }
            Due.due("years(" + m + ")", mother.years(m), want);
        }
    }

    private static void yearsBad() {
        for (int m : new int[] {Integer.MIN_VALUE, -1, 0, 31, 256, Integer.MAX_VALUE}) {
            Whole.leaves("years(" + m + ")", Whole::busy, one -> one.years(m), PearlMother.BAD);
        }
    }
}
