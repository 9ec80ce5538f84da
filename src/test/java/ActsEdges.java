/** Sentences of the terms on ACTS and SLOTS, and promises 10 to 13, 30 and 31. */
final class ActsEdges {
    private static final int TERMS = Sentences.TERMS;
    private static final String COAST = "P7H0H1H2C0000C1001";

    private ActsEdges() {
    }

    static void run(Sentences doc) {
        doc.says(TERMS, "TILTED: a PIECE's TILT is 1 more, or less, by 8.", ActsEdges::tiltedByEight);
        doc.says(TERMS, "GIVEN: a PIECE is held by another HOLDER.", ActsEdges::given);
        doc.says(TERMS, "AN HOUR: LIGHT is 1 more, by 8;", ActsEdges::lightByEight);
        doc.says(TERMS, "THE HOUR is one more.", ActsEdges::theHour);
        doc.says(TERMS, "ACTS (TILTED, GIVEN, HOURS) are a row", ActsEdges::aRow);
        doc.says(TERMS, "(14 at most;", ActsEdges::fourteen);
        doc.says(TERMS, "when it is full, the first one is forgotten);", ActsEdges::forgotten);
        doc.says(TERMS, "the last one can be undone.", ActsEdges::lastUndone);
        doc.says(TERMS, "SLOTS 0 .. 1 keep TILTS, who holds what, LIGHT, THE HOUR", ActsEdges::slots);
        doc.says(TERMS, "(no ACTS when one goes on).", ActsEdges::noActs);

        doc.says(10, "TILTED: its TILT.", ActsEdges::tilt);
        doc.says(10, "UNKNOWN.", ActsEdges::tiltUnknown);
        doc.says(11, "GIVEN: who held it.", ActsEdges::give);
        doc.says(11, "UNKNOWN: piece, holder;", ActsEdges::giveUnknown);
        doc.says(11, "LATE: it holds it.", ActsEdges::giveLate);
        doc.says(12, "AN HOUR: LIGHT.", ActsEdges::hour);
        doc.says(13, "The last ACT is undone: how many are left.", ActsEdges::undo);
        doc.says(13, "LATE: there is none.", ActsEdges::undoLate);
        doc.says(30, "They are kept: THE HOUR.", ActsEdges::keep);
        doc.says(30, "UNKNOWN.", ActsEdges::keepUnknown);
        doc.says(31, "They are as they were kept: THE HOUR.", ActsEdges::again);
        doc.says(31, "UNKNOWN;", ActsEdges::againUnknown);
        doc.says(31, "LATE: none were kept.", ActsEdges::againLate);
    }

    private static void tiltedByEight() {
        PearlMother mother = Due.coast(COAST);
        for (int count = 1; count <= 17; count++) {
            mother.tilt(1, true);
            Due.due("TILT, " + count + " more", mother.piece(1, 3), count % 8);
        }
        for (int count = 1; count <= 17; count++) {
            mother.tilt(0, false);
            Due.due("TILT, " + count + " less", mother.piece(0, 3), (24 - count) % 8);
        }
        Due.due("the other one is left", mother.piece(1, 3), 1);
        Due.due("LIGHT is left", mother.about(2), 7);
    }

    private static void given() {
        PearlMother mother = Due.coast(COAST);
        mother.give(0, 2);
        Due.due("who holds it", mother.piece(0, 4), 2);
        Due.due("what it holds", mother.holder(2, 1), 1);
        Due.due("what the other one holds no more", mother.holder(0, 1), 0);
        mother.give(0, 0);
        Due.due("and back", mother.piece(0, 4), 0);
        Due.due("the other PIECE is left", mother.piece(1, 4), 1);
    }

    private static void lightByEight() {
        PearlMother mother = Due.coast("P5");
        int[] lights = {6, 7, 0, 1, 2, 3, 4, 5, 6, 7, 0};
        for (int light : lights) {
            mother.hour();
            Due.due("LIGHT", mother.about(2), light);
        }
    }

    private static void theHour() {
        PearlMother mother = Due.coast("P5");
        for (int hour = 1; hour <= 200; hour++) {
            mother.hour();
            Due.due("THE HOUR", mother.about(3), hour);
        }
    }

    private static void aRow() {
        PearlMother mother = Due.coast(COAST);
        mother.tilt(0, true);
        Due.due("TILTED more is an ACT", mother.about(6), 1);
        mother.tilt(0, false);
        Due.due("TILTED less is another", mother.about(6), 2);
        mother.give(0, 1);
        Due.due("GIVEN is an ACT", mother.about(6), 3);
        mother.hour();
        Due.due("AN HOUR is an ACT", mother.about(6), 4);
        mother.turn(0, 0);
        mother.seed(1);
        mother.years(3);
        mother.keep(0);
        mother.write('X');
        mother.wipe();
        Due.due("nothing else is", mother.about(6), 4);
    }

    private static void fourteen() {
        PearlMother mother = Due.coast(COAST);
        for (int count = 1; count <= 13; count++) {
            mother.hour();
        }
        Due.due("13", mother.about(6), 13);
        mother.tilt(0, true);
        Due.due("14", mother.about(6), 14);
        mother.give(0, 1);
        Due.due("a fifteenth", mother.about(6), 14);
        mother.hour();
        Due.due("a sixteenth", mother.about(6), 14);
        Due.due("undo()", mother.undo(), 13);
        mother.hour();
        Due.due("there was room for one", mother.about(6), 14);
    }

    /** A full row loses the first one alone, and can be lost by one again and again. */
    private static void forgotten() {
        for (int more = 0; more <= 20; more++) {
            PearlMother mother = Due.coast(COAST);
            mother.give(0, 1);
            for (int count = 0; count < 13 + more; count++) {
                mother.tilt(count % 2, true);
            }
            for (int left = 13; left >= 0; left--) {
                Due.due("undo(), " + more + " forgotten", mother.undo(), left);
            }
            Due.due("undo(), none is left", mother.undo(), PearlMother.LATE);
            Due.due("the first one stays done", mother.piece(0, 4), more == 0 ? 0 : 1);
            int stay = Math.max(0, more - 1);
            Due.due("TILT of 0", mother.piece(0, 3), (stay + 1) / 2 % 8);
            Due.due("TILT of 1", mother.piece(1, 3), stay / 2 % 8);
        }
        Due.due("what is forgotten is no refusal", Whole.full().hour(), 0);
    }

    private static void lastUndone() {
        PearlMother mother = Due.coast(COAST);
        mother.hour();
        mother.give(1, 2);
        mother.tilt(1, false);
        mother.undo();
        Due.due("TILT", mother.piece(1, 3), 0);
        Due.due("who holds it, yet", mother.piece(1, 4), 2);
        mother.undo();
        Due.due("who holds it", mother.piece(1, 4), 1);
        Due.due("LIGHT, yet", mother.about(2), 0);
        mother.undo();
        Due.due("LIGHT", mother.about(2), 7);
        Due.due("THE HOUR", mother.about(3), 0);
        mother.tilt(1, true);
        mother.undo();
        Due.due("TILT, more undone", mother.piece(1, 3), 0);
    }

    private static void slots() {
        PearlMother mother = Due.coast(COAST);
        for (int slot = 0; slot <= 1; slot++) {
            mother.tilt(0, false);
            mother.give(1, 2 - slot);
            mother.hour();
            mother.keep(slot);
        }
        mother.tilt(0, true);
        mother.tilt(1, true);
        mother.give(1, 0);
        mother.hour();
        int[] tilts = {7, 6};
        for (int slot = 1; slot >= 0; slot--) {
            mother.again(slot);
            Due.due("TILT of 0", mother.piece(0, 3), tilts[slot]);
            Due.due("TILT of 1", mother.piece(1, 3), 0);
            Due.due("who holds 0", mother.piece(0, 4), 0);
            Due.due("who holds 1", mother.piece(1, 4), 2 - slot);
            Due.due("LIGHT", mother.about(2), slot);
            Due.due("THE HOUR", mother.about(3), slot + 1);
        }
    }

    private static void noActs() {
        PearlMother mother = Whole.full();
        Due.due("ACTS ahead", mother.about(6), 14);
        mother.again(0);
        Due.due("ACTS", mother.about(6), 0);
        Due.due("undo()", mother.undo(), PearlMother.LATE);
        mother.hour();
        Due.due("ACTS begin anew", mother.about(6), 1);
        Due.due("undo()", mother.undo(), 0);
        PearlMother kept = Whole.full();
        kept.keep(0);
        Due.due("keeping leaves ACTS", kept.about(6), 14);
    }

    private static void tilt() {
        PearlMother mother = Due.coast(COAST);
        Due.due("tilt(0, false)", mother.tilt(0, false), 7);
        Due.due("tilt(0, true)", mother.tilt(0, true), 0);
        Due.due("tilt(0, true)", mother.tilt(0, true), 1);
        for (int count = 2; count <= 7; count++) {
            Due.due("tilt(0, true)", mother.tilt(0, true), count);
        }
        Due.due("tilt(0, true)", mother.tilt(0, true), 0);
        PearlMother full = Whole.full();
        Due.due("tilt(5, false), the last PIECE, ACTS being full", full.tilt(5, false), 6);
        Whole.changes("tilt(1, true)", Whole::busy, one -> one.tilt(1, true), Whole.LIE, Whole.ACTS);
        Whole.changes("tilt(1, false)", Whole::full, one -> one.tilt(1, false), Whole.LIE, Whole.ACTS);
    }

    private static void tiltUnknown() {
        for (int piece : new int[] {-1, 2, 6, 8, Integer.MIN_VALUE, Integer.MAX_VALUE}) {
            Whole.leaves("tilt(" + piece + ", true)", Whole::busy, one -> one.tilt(piece, true), PearlMother.UNKNOWN);
            Whole.leaves("tilt(" + piece + ", false)", Whole::busy, one -> one.tilt(piece, false), PearlMother.UNKNOWN);
        }
        Whole.leaves("tilt(6, true)", Whole::full, one -> one.tilt(6, true), PearlMother.UNKNOWN);
        Whole.leaves("tilt(0, true)", PearlMother::new, one -> one.tilt(0, true), PearlMother.UNKNOWN);
    }

    private static void give() {
        PearlMother mother = Due.coast(COAST);
        Due.due("give(0, 1)", mother.give(0, 1), 0);
        Due.due("give(0, 2)", mother.give(0, 2), 1);
        Due.due("give(0, 0)", mother.give(0, 0), 2);
        Due.due("give(5, 0), the last PIECE", Whole.full().give(5, 0), 3);
        Whole.changes("give(1, 1)", Whole::busy, one -> one.give(1, 1), Whole.LIE, Whole.ACTS);
    }

    private static void giveUnknown() {
        for (int none : new int[] {-1, 2, 4, 6, Integer.MIN_VALUE, Integer.MAX_VALUE}) {
            Whole.leaves("give(" + none + ", 0)", Whole::busy, one -> one.give(none, 0), PearlMother.UNKNOWN);
            Whole.leaves("give(0, " + none + ")", Whole::busy, one -> one.give(0, none), PearlMother.UNKNOWN);
            Whole.leaves("give(both " + none + ")", Whole::busy, one -> one.give(none, none), PearlMother.UNKNOWN);
        }
        Whole.leaves("give(5, 4)", Whole::full, one -> one.give(5, 4), PearlMother.UNKNOWN);
        Whole.leaves("give(6, 3)", Whole::full, one -> one.give(6, 3), PearlMother.UNKNOWN);
        Whole.leaves("give(0, 0)", PearlMother::new, one -> one.give(0, 0), PearlMother.UNKNOWN);
    }

    private static void giveLate() {
        Whole.leaves("give(0, 0)", Whole::busy, one -> one.give(0, 0), PearlMother.LATE);
        Whole.leaves("give(1, 0), which was given", Whole::busy, one -> one.give(1, 0), PearlMother.LATE);
        Whole.leaves("give(5, 3)", Whole::full, one -> one.give(5, 3), PearlMother.LATE);
        PearlMother mother = Whole.busy();
        Due.due("give(1, 1), which held it once", mother.give(1, 1), 0);
    }

    private static void hour() {
        PearlMother mother = new PearlMother();
        for (int count = 1; count <= 512; count++) {
            Due.due("hour(), " + count, mother.hour(), count % 8);
        }
        Due.due("hour() from 7", Due.coast("P7").hour(), 0);
        Whole.changes("hour()", Whole::busy, PearlMother::hour, Whole.LIE, Whole.ACTS);
        Whole.changes("hour(), ACTS being full", Whole::full, PearlMother::hour, Whole.LIE, Whole.ACTS);
    }

    private static void undo() {
        PearlMother mother = Due.coast(COAST);
        for (int count = 0; count < 14; count++) {
            mother.hour();
        }
        for (int left = 13; left >= 0; left--) {
            Due.due("undo()", mother.undo(), left);
            Due.due("THE HOUR", mother.about(3), left);
            Due.due("LIGHT", mother.about(2), (7 + left) % 8);
        }
        Whole.changes("undo()", Whole::busy, PearlMother::undo, Whole.LIE, Whole.ACTS);
        Whole.changes("undo(), ACTS being full", Whole::full, PearlMother::undo, Whole.LIE, Whole.ACTS);
    }

    private static void undoLate() {
        Whole.leaves("undo() at first", PearlMother::new, PearlMother::undo, PearlMother.LATE);
        Whole.leaves("undo() of a new COAST", () -> Due.coast(COAST), PearlMother::undo, PearlMother.LATE);
        Whole.leaves("undo() of no ACTS, gone on", ActsEdges::goneOn, PearlMother::undo, PearlMother.LATE);
        PearlMother mother = Due.coast(COAST);
        mother.hour();
        mother.undo();
        Due.due("undo() of all undone", mother.undo(), PearlMother.LATE);
        Due.due("once more", mother.undo(), PearlMother.LATE);
        Due.due("THE HOUR", mother.about(3), 0);
    }

    private static PearlMother goneOn() {
        PearlMother mother = Whole.full();
        mother.again(1);
        return mother;
    }

    private static void keep() {
        PearlMother mother = Due.coast(COAST);
        Due.due("keep(0)", mother.keep(0), 0);
        for (int count = 1; count <= 9; count++) {
            mother.hour();
            Due.due("keep(1), over what was kept", mother.keep(1), count);
        }
        Due.due("again(0)", mother.again(0), 0);
        Due.due("again(1), the last kept", mother.again(1), 9);
        Due.due("LIGHT", mother.about(2), 0);
        Due.due("keep(0) of a new object", new PearlMother().keep(0), 0);
        Whole.changes("keep(0)", Whole::busy, one -> one.keep(0), Whole.SLOTS);
        Whole.changes("keep(1)", Whole::busy, one -> one.keep(1), Whole.SLOTS);
    }

    private static void keepUnknown() {
        for (int slot : new int[] {-1, 2, 3, 256, Integer.MIN_VALUE, Integer.MAX_VALUE}) {
            Whole.leaves("keep(" + slot + ")", Whole::busy, one -> one.keep(slot), PearlMother.UNKNOWN);
        }
    }

    private static void again() {
        PearlMother mother = Whole.full();
        Due.due("again(1)", mother.again(1), 0);
        Due.due("THE HOUR", mother.about(3), 0);
        Due.due("LIGHT", mother.about(2), 3);
        Due.due("TILT", mother.piece(3, 3), 0);
        Due.due("who holds it", mother.piece(0, 4), 0);
        Due.due("again(0)", mother.again(0), 11);
        Due.due("THE HOUR", mother.about(3), 11);
        Due.due("LIGHT", mother.about(2), 6);
        Due.due("TILT", mother.piece(3, 3), 1);
        Due.due("TILT", mother.piece(5, 3), 7);
        Due.due("who holds it", mother.piece(0, 4), 3);
        mother.tilt(3, true);
        mother.hour();
        Due.due("again(0), kept as it was", mother.again(0), 11);
        Due.due("TILT", mother.piece(3, 3), 1);
        Whole.changes("again(0)", Whole::busy, one -> one.again(0), Whole.LIE, Whole.ACTS);
        Whole.changes("again(1)", Whole::full, one -> one.again(1), Whole.LIE, Whole.ACTS);
    }

    private static void againUnknown() {
        for (int slot : new int[] {-1, 2, 3, 256, Integer.MIN_VALUE, Integer.MAX_VALUE}) {
            Whole.leaves("again(" + slot + ")", Whole::full, one -> one.again(slot), PearlMother.UNKNOWN);
        }
    }

    private static void againLate() {
        Whole.leaves("again(1), only the other was kept", Whole::busy, one -> one.again(1), PearlMother.LATE);
        Whole.leaves("again(0) at first", PearlMother::new, one -> one.again(0), PearlMother.LATE);
        Whole.leaves("again(1) at first", PearlMother::new, one -> one.again(1), PearlMother.LATE);
        PearlMother mother = Due.coast(COAST);
        mother.keep(1);
        Due.due("again(0), only the other was kept", mother.again(0), PearlMother.LATE);
    }
}
