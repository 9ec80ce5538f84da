/** Promises 10 to 13, 30 and 31: ACTS, and SLOTS that keep what they change. */
public final class ActsTest {
    public static void main(String[] args) {
        tilting();
        giving();
        hours();
        undoing();
        forgetting();
        keeping();
        Due.end("ActsTest");
    }

    private static void tilting() {
        PearlMother mother = Due.coast("P1H0C0000C1000");
        for (int turn = 1; turn <= 9; turn++) {
            Due.due("tilt(1, true)", mother.tilt(1, true), turn % 8);
        }
        Due.due("tilt(0, false)", mother.tilt(0, false), 7);
        Due.due("tilt(0, false)", mother.tilt(0, false), 6);
        Due.due("about(6)", mother.about(6), 11);
        Due.due("tilting leaves others", mother.piece(1, 3), 1);
        Due.due("tilting leaves LIGHT", mother.about(2), 1);
        Due.due("the ANGLE in the LIGHT", mother.piece(0, 5), 7);
        Due.due("tilt(2, true)", mother.tilt(2, true), PearlMother.UNKNOWN);
        Due.due("tilt(-1, false)", mother.tilt(-1, false), PearlMother.UNKNOWN);
        Due.due("refused tilts are no ACTS", mother.about(6), 11);
    }

    private static void giving() {
        PearlMother mother = Due.coast("P1H0H1H2C0000C1001");
        Due.due("give(0, 2)", mother.give(0, 2), 0);
        Due.due("give(0, 1)", mother.give(0, 1), 2);
        Due.due("who holds it", mother.piece(0, 4), 1);
        Due.due("what it holds", mother.holder(1, 1), 3);
        Due.due("give(0, 1) again", mother.give(0, 1), PearlMother.LATE);
        Due.due("give(2, 0)", mother.give(2, 0), PearlMother.UNKNOWN);
        Due.due("give(-1, 0)", mother.give(-1, 0), PearlMother.UNKNOWN);
        Due.due("give(0, 3)", mother.give(0, 3), PearlMother.UNKNOWN);
        Due.due("give(0, -1)", mother.give(0, -1), PearlMother.UNKNOWN);
        Due.due("refused givings are no ACTS", mother.about(6), 2);
    }

    private static void hours() {
        PearlMother mother = Due.coast("P6");
        Due.due("hour()", mother.hour(), 7);
        Due.due("hour()", mother.hour(), 0);
        Due.due("hour()", mother.hour(), 1);
        Due.due("THE HOUR", mother.about(3), 3);
        Due.due("ACTS", mother.about(6), 3);
        PearlMother fresh = new PearlMother();
        for (int count = 1; count <= 20; count++) {
            Due.due("hour() of a new object", fresh.hour(), count % 8);
        }
        Due.due("THE HOUR goes beyond 8", fresh.about(3), 20);
        Due.due("ACTS are 14 at most", fresh.about(6), 14);
    }

    private static void undoing() {
        PearlMother mother = Due.coast("P7H0H1C0000");
        mother.tilt(0, false);
        mother.give(0, 1);
        mother.hour();
        mother.tilt(0, true);
        mother.tilt(0, true);
        Due.due("undo() of more", mother.undo(), 4);
        Due.due("TILT", mother.piece(0, 3), 0);
        Due.due("undo() of more", mother.undo(), 3);
        Due.due("TILT", mother.piece(0, 3), 7);
        Due.due("undo() of an hour", mother.undo(), 2);
        Due.due("LIGHT", mother.about(2), 7);
        Due.due("THE HOUR", mother.about(3), 0);
        Due.due("who holds it", mother.piece(0, 4), 1);
        Due.due("undo() of giving", mother.undo(), 1);
        Due.due("who holds it", mother.piece(0, 4), 0);
        Due.due("undo() of less", mother.undo(), 0);
        Due.due("TILT", mother.piece(0, 3), 0);
        Due.due("undo() of nothing", mother.undo(), PearlMother.LATE);
        eachPieceForItself();
    }

    private static void eachPieceForItself() {
        PearlMother mother = Due.coast("P0H0H1H2H3C0000C0001C0002C0003C0000C0001");
        for (int piece = 0; piece < 6; piece++) {
            mother.tilt(piece, piece % 2 == 0);
            mother.give(piece, (piece + 2) % 4);
        }
        for (int piece = 5; piece >= 0; piece--) {
            Due.due("who holds " + piece, mother.piece(piece, 4), (piece + 2) % 4);
            mother.undo();
            Due.due("who held " + piece, mother.piece(piece, 4), piece % 4);
            Due.due("TILT of " + piece, mother.piece(piece, 3), piece % 2 == 0 ? 1 : 7);
            mother.undo();
            Due.due("TILT of " + piece + " undone", mother.piece(piece, 3), 0);
        }
        Due.due("all is undone", mother.about(6), 0);
    }

    private static void forgetting() {
        PearlMother mother = Due.coast("P0H0H1C0000");
        mother.give(0, 1);
        mother.tilt(0, true);
        for (int count = 0; count < 13; count++) {
            mother.hour();
        }
        Due.due("ACTS of 15", mother.about(6), 14);
        for (int left = 13; left >= 0; left--) {
            Due.due("undo()", mother.undo(), left);
        }
        Due.due("undo() of what is forgotten", mother.undo(), PearlMother.LATE);
        Due.due("what is forgotten stays done", mother.piece(0, 4), 1);
        Due.due("the others are undone", mother.piece(0, 3), 0);
        Due.due("THE HOUR", mother.about(3), 0);
        forgettingEndsWithTheLast();
    }

    /** What is undone behind a full row is what was done last, and only that. */
    private static void forgettingEndsWithTheLast() {
        PearlMother mother = Due.coast("P0H0C0000C0000");
        for (int count = 0; count < 13; count++) {
            mother.hour();
        }
        mother.tilt(0, true);
        mother.tilt(1, false);
        Due.due("undo()", mother.undo(), 13);
        Due.due("TILT of 1", mother.piece(1, 3), 0);
        Due.due("TILT of 0", mother.piece(0, 3), 1);
        Due.due("undo()", mother.undo(), 12);
        Due.due("TILT of 0", mother.piece(0, 3), 0);
        Due.due("THE HOUR", mother.about(3), 13);
    }

    private static void keeping() {
        PearlMother mother = Due.coast("P7H0H1C0000C1111");
        Due.due("again(0) ahead of keeping", mother.again(0), PearlMother.LATE);
        Due.due("keep(2)", mother.keep(2), PearlMother.UNKNOWN);
        Due.due("keep(-1)", mother.keep(-1), PearlMother.UNKNOWN);
        Due.due("again(2)", mother.again(2), PearlMother.UNKNOWN);
        Due.due("again(-1)", mother.again(-1), PearlMother.UNKNOWN);
        mother.hour();
        mother.tilt(1, false);
        mother.give(0, 1);
        Due.due("keep(0)", mother.keep(0), 1);
        Due.due("keeping leaves ACTS", mother.about(6), 3);
        Due.due("again(1), not kept", mother.again(1), PearlMother.LATE);
        Due.due("a refused again leaves ACTS", mother.about(6), 3);
        mother.hour();
        mother.tilt(1, false);
        mother.tilt(0, false);
        mother.give(0, 0);
        Due.due("keep(1)", mother.keep(1), 2);
        mother.turn(0, 0);
        mother.seed(5);
        Due.due("again(0)", mother.again(0), 1);
        Due.due("LIGHT", mother.about(2), 0);
        Due.due("THE HOUR", mother.about(3), 1);
        Due.due("TILT", mother.piece(1, 3), 7);
        Due.due("TILT", mother.piece(0, 3), 0);
        Due.due("who holds it", mother.piece(0, 4), 1);
        Due.due("no ACTS", mother.about(6), 0);
        Due.due("undo()", mother.undo(), PearlMother.LATE);
        Due.due("TURNED stays", mother.about(7), 1);
        Due.due("THE SEED stays", mother.seed(5), 5);
        mother.tilt(0, true);
        Due.due("again(1)", mother.again(1), 2);
        Due.due("TILT", mother.piece(1, 3), 6);
        Due.due("TILT", mother.piece(0, 3), 7);
        Due.due("who holds it", mother.piece(0, 4), 0);
        Due.due("again(0) once more, as it was kept", mother.again(0), 1);
        Due.due("TILT", mother.piece(0, 3), 0);
        mother.hour();
        mother.hour();
        Due.due("keep(0) over what was kept", mother.keep(0), 3);
        mother.hour();
        Due.due("again(0)", mother.again(0), 3);
        PearlMother fresh = new PearlMother();
        fresh.hour();
        Due.due("keep(1) of a new object", fresh.keep(1), 1);
        fresh.hour();
        Due.due("again(1) of a new object", fresh.again(1), 1);
        Due.due("LIGHT", fresh.about(2), 1);
    }
}
