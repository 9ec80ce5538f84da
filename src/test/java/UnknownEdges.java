/** Sentences of the terms on what is TURNED, and promises 22 to 25. */
final class UnknownEdges {
    private static final int TERMS = Sentences.TERMS;
    private static final int NONE = PearlMother.NONE;

    private UnknownEdges() {
    }

    static void run(Sentences doc) {
        doc.says(TERMS, "TURNED: that in an unknown PIECE, at an ANGLE g (0 .. 7) in the LIGHT,", UnknownEdges::angles);
        doc.says(TERMS, "a PLAIN HOLDER saw PART v (0 .. 4), or nothing (5):", UnknownEdges::whatWasSeen);
        doc.says(TERMS, "6 such at most,", UnknownEdges::sixAtMost);
        doc.says(TERMS, "none at first.", UnknownEdges::noneAtFirst);
        doc.says(TERMS, "MAY: PARTS, ANGLES, KINDS that the unknown PIECE may have by all that is TURNED: how many",
                UnknownEdges::byAllThatIsTurned);
        doc.says(TERMS, "(160 there are);", () -> Due.due("may(0)", new PearlMother().may(0), 160));
        doc.says(TERMS, "the first one (100 times PART, 10 times ANGLE and KIND);", UnknownEdges::firstOne);
        doc.says(TERMS, "NONE.", UnknownEdges::noFirstOne);
        doc.says(TERMS, "NEXT: the ANGLE at which, of all that it may be, the greatest number of like answers is least;",
                UnknownEdges::leastOfGreatest);
        doc.says(TERMS, "of like ones the least;", UnknownEdges::leastAngle);
        doc.says(TERMS, "NONE: it may be nothing.", () -> next(NONE, 3, 1, 3, 2));

        doc.says(22, "TURNED: how many there are.", UnknownEdges::turn);
        doc.says(22, "BAD: angle, v;", UnknownEdges::turnBad);
        doc.says(22, "FULL: 6.", UnknownEdges::turnFull);
        doc.says(23, "Nothing is TURNED: how much there was.", UnknownEdges::unturn);
        doc.says(24, "MAY: how many (what = 0),", () -> may(15, 202, 3, 2));
        doc.says(24, "the first one (1);", () -> may(7, 213, 3, 2, 5, 5));
        doc.says(24, "NONE.", () -> may(0, NONE, 0, 0, 0, 5));
        doc.says(24, "BAD.", UnknownEdges::mayBad);
        doc.says(25, "NEXT;", () -> next(7, 1, 1, 4, 5, 5, 5));
        doc.says(25, "NONE.", () -> next(NONE, 0, 4, 0, 5));
    }

    /** An object with these TURNED: an ANGLE, what was seen, and so on. */
    private static PearlMother turned(int... figures) {
        PearlMother mother = new PearlMother();
        for (int place = 0; place < figures.length; place += 2) {
            Due.due("turn(" + figures[place] + ", " + figures[place + 1] + ")",
                    mother.turn(figures[place], figures[place + 1]), place / 2 + 1);
        }
        return mother;
    }

    private static void may(int count, int first, int... figures) {
        PearlMother mother = turned(figures);
        Due.due("may(0)", mother.may(0), count);
        Due.due("may(1)", mother.may(1), first);
    }

    private static void next(int want, int... figures) {
        Due.due("next()", turned(figures).next(), want);
    }

    private static void angles() {
        // the first KIND of ANGLE 0 that shows at g: PLAIN from 7 to 1, DEEP from 3 to 5 too, WIDE at the others
        int[] first = {100, 100, 103, 102, 102, 102, 103, 100};
        for (int angle = 0; angle <= 7; angle++) {
            may(15, first[angle], angle, 1);
        }
        Due.due("turn(8, 1)", new PearlMother().turn(8, 1), PearlMother.BAD);
        Due.due("turn(-1, 1)", new PearlMother().turn(-1, 1), PearlMother.BAD);
        // it is round: what shows at 0 and nowhere from 2 to 6 shows at 7 or at 1 at most
        may(4, 100, 0, 1, 2, 5, 6, 5);
    }

    private static void whatWasSeen() {
        for (int part = 0; part <= 4; part++) {
            may(15, 100 * part + 2, 3, part);
        }
        may(85, 1, 1, 5);
        Due.due("turn(0, 6)", new PearlMother().turn(0, 6), PearlMother.BAD);
        Due.due("turn(0, -1)", new PearlMother().turn(0, -1), PearlMother.BAD);
        // a PLAIN HOLDER: HER LOOK is not seen always, nor 1 further, nor never
        may(15, 200, 0, 2);
        may(1, 241, 4, 2, 3, 5, 5, 5);
    }

    private static void sixAtMost() {
        PearlMother mother = turned(0, 5, 1, 5, 2, 5, 4, 5, 5, 5, 6, 5);
        Due.due("a seventh", mother.turn(7, 5), PearlMother.FULL);
        Due.due("TURNED", mother.about(7), 6);
        Due.due("all six count", mother.may(0), 10);
        Due.due("the seventh does not", mother.may(1), 31);
    }

    private static void noneAtFirst() {
        Due.due("TURNED at first", new PearlMother().about(7), 0);
        Due.due("unturn() at first", new PearlMother().unturn(), 0);
        Due.due("TURNED of a COAST", Due.coast("P0H0C0000").about(7), 0);
    }

    private static void byAllThatIsTurned() {
        may(160, 0);
        may(15, 202, 3, 2);
        may(8, 202, 3, 2, 7, 2);
        may(3, 213, 3, 2, 7, 2, 5, 5);
        may(2, 232, 3, 2, 7, 2, 5, 5, 1, 5);
        may(0, NONE, 3, 2, 7, 2, 5, 5, 1, 5, 3, 5);
        // the last of six counts, and one that is told twice counts once
        may(2, 232, 3, 2, 3, 2, 7, 2, 7, 2, 5, 5, 1, 5);
        // two PARTS in one PIECE can not be
        may(0, NONE, 0, 1, 4, 2);
    }

    private static void firstOne() {
        may(160, 0);
        may(1, 473, 5, 4, 1, 4, 3, 5, 7, 4);
        may(1, 41, 4, 0, 3, 5, 5, 5);
        may(10, 31, 0, 5, 1, 5, 2, 5, 4, 5, 5, 5, 6, 5);
    }

    private static void noFirstOne() {
        may(0, NONE, 3, 1, 3, 2);
        may(0, NONE, 3, 1, 3, 5);
        PearlMother mother = turned(3, 1, 3, 2);
        mother.unturn();
        Due.due("may(1), unturned", mother.may(1), 0);
    }

    private static void leastOfGreatest() {
        next(3, 0, 5, 1, 5, 2, 5, 4, 5, 5, 5, 6, 5);
        // HAND at 1, nothing at 4, 5: six it may be; at 7 they are 3 and 3, elsewhere 4 at least
        may(6, 100, 1, 1, 4, 5, 5, 5);
        next(7, 1, 1, 4, 5, 5, 5);
        next(2, 0, 1);
        next(1, 3, 1);
        next(6, 2, 1, 3, 1);
        // asked again and again, and of what it may be now, not of what it might have been
        PearlMother mother = new PearlMother();
        for (int count = 0; count < 20; count++) {
            Due.due("next() at first, once more", mother.next(), 0);
        }
        mother.turn(1, 1);
        mother.turn(4, 5);
        mother.turn(5, 5);
        for (int count = 0; count < 20; count++) {
            Due.due("next() then", mother.next(), 7);
            Due.due("may(0) then", mother.may(0), 6);
        }
        mother.unturn();
        Due.due("next(), all undone", mother.next(), 0);
    }

    private static void leastAngle() {
        next(0);
        // one it may be: all ANGLES are alike, those too that were tried
        next(0, 4, 0, 3, 5, 5, 5);
        next(0, 0, 0, 1, 5, 7, 5);
        // at 3 and at 7 alike
        next(3, 0, 5, 1, 5, 2, 5, 4, 5, 5, 5, 6, 5);
        // at 0 and at 7 alike
        next(0, 1, 5, 2, 5, 3, 5, 4, 5, 5, 5, 6, 5);
    }

    private static void turn() {
        PearlMother mother = new PearlMother();
        for (int count = 1; count <= 6; count++) {
            Due.due("turn", mother.turn(count, count % 6), count);
        }
        Whole.changes("turn(7, 2)", Whole::busy, one -> one.turn(7, 2), Whole.TURNED);
    }

    private static void turnBad() {
        for (int angle : new int[] {Integer.MIN_VALUE, -1, 8, 256, Integer.MAX_VALUE}) {
            Whole.leaves("turn(" + angle + ", 0)", Whole::busy, one -> one.turn(angle, 0), PearlMother.BAD);
            Whole.leaves("turn(" + angle + ", 6)", Whole::busy, one -> one.turn(angle, 6), PearlMother.BAD);
            Whole.leaves("turn(" + angle + ", 0), the seventh", Whole::full, one -> one.turn(angle, 0),
                    PearlMother.BAD);
        }
        for (int v : new int[] {Integer.MIN_VALUE, -1, 6, 256, Integer.MAX_VALUE}) {
            Whole.leaves("turn(0, " + v + ")", Whole::busy, one -> one.turn(0, v), PearlMother.BAD);
            Whole.leaves("turn(7, " + v + "), the seventh", Whole::full, one -> one.turn(7, v), PearlMother.BAD);
        }
        PearlMother mother = new PearlMother();
        Due.due("turn(0, 0)", mother.turn(0, 0), 1);
        Due.due("turn(7, 5)", mother.turn(7, 5), 2);
    }

    private static void turnFull() {
        Whole.leaves("turn(0, 0), the seventh", Whole::full, one -> one.turn(0, 0), PearlMother.FULL);
        Whole.leaves("turn(7, 5), the seventh", Whole::full, one -> one.turn(7, 5), PearlMother.FULL);
        PearlMother mother = Whole.full();
        mother.unturn();
        Due.due("there is room again", mother.turn(7, 5), 1);
    }

    private static void unturn() {
        PearlMother mother = new PearlMother();
        for (int count = 0; count <= 6; count++) {
            for (int one = 0; one < count; one++) {
                mother.turn(one, 5);
            }
            Due.due("unturn()", mother.unturn(), count);
            Due.due("TURNED", mother.about(7), 0);
            Due.due("may(0)", mother.may(0), 160);
            Due.due("unturn() once more", mother.unturn(), 0);
        }
        Whole.changes("unturn()", Whole::full, PearlMother::unturn, Whole.TURNED);
        Whole.changes("unturn() of nothing", PearlMother::new, PearlMother::unturn);
    }

    private static void mayBad() {
        for (int what : new int[] {Integer.MIN_VALUE, -1, 2, 256, Integer.MAX_VALUE}) {
            Whole.leaves("may(" + what + ")", Whole::full, one -> one.may(what), PearlMother.BAD);
            Whole.leaves("may(" + what + ")", PearlMother::new, one -> one.may(what), PearlMother.BAD);
        }
    }
}
