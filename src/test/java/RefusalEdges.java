import java.util.function.ToLongFunction;

/** Sentences of the terms' fourth section. */
final class RefusalEdges {
    private static final int TERMS = Sentences.TERMS;
    private static final int UNKNOWN = PearlMother.UNKNOWN;
    private static final int BAD = PearlMother.BAD;
    private static final int LATE = PearlMother.LATE;
    private static final int FULL = PearlMother.FULL;

    private RefusalEdges() {
    }

    static void run(Sentences doc) {
        doc.says(TERMS, "REFUSALS: UNKNOWN -1 (there is no such HOLDER, PIECE, SLOT), BAD -2, LATE -3, FULL -4.", () -> {
            Due.due("UNKNOWN", UNKNOWN, -1);
            Due.due("BAD", BAD, -2);
            Due.due("LATE", LATE, -3);
            Due.due("FULL", FULL, -4);
            Due.due("no such HOLDER", Whole.busy().holder(2, 0), -1);
            Due.due("no such PIECE", Whole.busy().piece(2, 0), -1);
            Due.due("no such SLOT", Whole.busy().keep(2), -1);
            Due.due("BAD", Whole.busy().about(9), -2);
            Due.due("LATE", Whole.busy().coast(), -3);
            Due.due("FULL", Whole.full().write(0), -4);
        });
        doc.says(TERMS, "Of several what is told first.", RefusalEdges::toldFirst);
        doc.says(TERMS, "What is refused changes nothing.", RefusalEdges::changesNothing);
        doc.says(TERMS, "NONE is -9.", () -> {
            Due.due("NONE", PearlMother.NONE, -9);
            Due.due("fault()", Due.coast("P0").fault(), -9);
            Due.due("tilts(0, 0)", Due.coast("P0H3C0000").tilts(0, 0), -9);
        });
        doc.says(TERMS, "FRACTIONS are told above (upper = true), below, in least terms.", RefusalEdges::fractions);
    }

    private static void first(String call, ToLongFunction<PearlMother> asked, int want) {
        Whole.leaves(call, Whole::full, asked, want);
    }

    /** All calls in which refusals of two names can meet, in an object where they do. */
    private static void toldFirst() {
        first("write(256) behind 48", one -> one.write(256), BAD);
        first("write(-1) behind 48", one -> one.write(-1), BAD);
        first("turn(8, 0) behind 6", one -> one.turn(8, 0), BAD);
        first("turn(0, 6) behind 6", one -> one.turn(0, 6), BAD);
        first("holder(4, 3)", one -> one.holder(4, 3), UNKNOWN);
        first("holder(-1, -1)", one -> one.holder(-1, -1), UNKNOWN);
        first("piece(6, 7)", one -> one.piece(6, 7), UNKNOWN);
        first("piece(-1, -1)", one -> one.piece(-1, -1), UNKNOWN);
        first("shows(6, 0, 8)", one -> one.shows(6, 0, 8), UNKNOWN);
        first("shows(0, 4, 8)", one -> one.shows(0, 4, 8), UNKNOWN);
        first("give(6, 0)", one -> one.give(6, 0), UNKNOWN);
        first("give(6, 4)", one -> one.give(6, 4), UNKNOWN);
        first("finds(4, 5)", one -> one.finds(4, 5), UNKNOWN);
        first("when(4, 5)", one -> one.when(4, 5), UNKNOWN);
        first("rests(6, 0, 0, 0)", one -> one.rests(6, 0, 0, 0), UNKNOWN);
        first("rests(6, 0, 1, 2)", one -> one.rests(6, 0, 1, 2), UNKNOWN);
        first("rests(0, 4, 4, 2)", one -> one.rests(0, 4, 4, 2), UNKNOWN);
        first("rests(0, 0, 4, 2)", one -> one.rests(0, 0, 4, 2), UNKNOWN);
        first("rests(0, 4, 0, 2)", one -> one.rests(0, 4, 0, 2), UNKNOWN);
        first("glints(4, 5, 1, 0, true)", one -> one.glints(4, 5, 1, 0, true), UNKNOWN);
        first("glints(4, 0, 7, 0, true)", one -> one.glints(4, 0, 7, 0, true), UNKNOWN);
        first("glints(4, 0, 1, 11, true)", one -> one.glints(4, 0, 1, 11, true), UNKNOWN);
        // UNKNOWN ahead of LATE: nothing was kept there, and there is no such SLOT
        Whole.leaves("again(2)", PearlMother::new, one -> one.again(2), UNKNOWN);
        Whole.leaves("again(-1)", PearlMother::new, one -> one.again(-1), UNKNOWN);
    }

    /** What the promises' own tests leave out: the refusals of calls that change something, in a full object. */
    private static void changesNothing() {
        first("write(80) behind 48", one -> one.write('P'), FULL);
        first("coast() with a FAULT", PearlMother::coast, LATE);
        first("tilt(6, true)", one -> one.tilt(6, true), UNKNOWN);
        first("give(5, 4)", one -> one.give(5, 4), UNKNOWN);
        first("give(0, 3), which holds it", one -> one.give(0, 3), LATE);
        first("turn(0, 5) behind 6", one -> one.turn(0, 5), FULL);
        first("years(0)", one -> one.years(0), BAD);
        first("years(31)", one -> one.years(31), BAD);
        first("keep(2)", one -> one.keep(2), UNKNOWN);
        first("again(2)", one -> one.again(2), UNKNOWN);
        first("judge(5, 300)", one -> one.judge(5, 300), BAD);
        first("judge(1, 1000)", one -> one.judge(1, 1000), BAD);
        Whole.leaves("undo() of nothing", PearlMother::new, PearlMother::undo, LATE);
        Whole.leaves("again(1)", Whole::busy, one -> one.again(1), LATE);
    }

    private static void fractions() {
        // 4/10, 84/100, 36/100, 96/100, 5/10; nothing and all; 984375 and 737856 of a million
        fraction(1, 4, 2, 5);
        fraction(2, 6, 21, 25);
        fraction(2, 2, 9, 25);
        fraction(2, 8, 24, 25);
        fraction(1, 5, 1, 2);
        fraction(1, 0, 0, 1);
        fraction(6, 0, 0, 1);
        fraction(6, 10, 1, 1);
        fraction(6, 5, 63, 64);
        fraction(6, 2, 11529, 15625);
        PearlMother mother = Due.coast("P0H0C0000C0000C0400");
        Due.due("share(0, true)", mother.share(0, true), 1);
        Due.due("share(0, false)", mother.share(0, false), 2);
        Due.due("share(2, true), nothing", mother.share(2, true), 0);
        Due.due("share(2, false), nothing", mother.share(2, false), 1);
    }

    /** That LIGHT goes on at all in n HOURS, by x tenths. */
    private static void fraction(int n, int x, int above, int below) {
        PearlMother mother = Due.coast("P0H0C0110");
        Due.due("glints(0, 0, " + n + ", " + x + ", true)", mother.glints(0, 0, n, x, true), above);
        Due.due("glints(0, 0, " + n + ", " + x + ", false)", mother.glints(0, 0, n, x, false), below);
    }
}
