/** Promises 22 to 25: the unknown PIECE, by what was seen in it. */
public final class UnknownPieceTest {
    public static void main(String[] args) {
        turning();
        may();
        next();
        Due.end("UnknownPieceTest");
    }

    private static void turning() {
        PearlMother mother = new PearlMother();
        Due.due("turn(-1, 0)", mother.turn(-1, 0), PearlMother.BAD);
        Due.due("turn(8, 0)", mother.turn(8, 0), PearlMother.BAD);
        Due.due("turn(0, -1)", mother.turn(0, -1), PearlMother.BAD);
        Due.due("turn(0, 6)", mother.turn(0, 6), PearlMother.BAD);
        for (int count = 1; count <= 6; count++) {
            Due.due("turn(7, 5)", mother.turn(7, 5), count);
        }
        Due.due("turn(7, 5), the seventh", mother.turn(7, 5), PearlMother.FULL);
        Due.due("turn(8, 5), the seventh", mother.turn(8, 5), PearlMother.BAD);
        Due.due("about(7)", mother.about(7), 6);
        Due.due("unturn()", mother.unturn(), 6);
        Due.due("unturn() of nothing", mother.unturn(), 0);
        Due.due("about(7)", mother.about(7), 0);
        Due.due("may(0), all of them again", mother.may(0), 160);
        Due.due("turn(0, 4)", mother.turn(0, 4), 1);
        Due.due("TURNED is no ACT", mother.about(6), 0);
    }

    private static void may() {
        PearlMother mother = new PearlMother();
        Due.due("may(0)", mother.may(0), 160);
        Due.due("may(1)", mother.may(1), 0);
        Due.due("may(2)", mother.may(2), PearlMother.BAD);
        Due.due("may(-1)", mother.may(-1), PearlMother.BAD);
        mother.turn(3, 2);
        // at 3: PLAIN 3 ways, DULL 1, DEEP 6, WIDE 5
        Due.due("may(0) by one", mother.may(0), 15);
        Due.due("may(1) by one", mother.may(1), 202);
        mother.turn(7, 2);
        Due.due("may(0) by both sides: DEEP, or WIDE between", mother.may(0), 8);
        mother.turn(5, 5);
        Due.due("may(0): DEEP at 3 or at 7, WIDE at 1", mother.may(0), 3);
        Due.due("may(1): WIDE at 1", mother.may(1), 213);
        mother.turn(1, 5);
        Due.due("may(0): DEEP at 3 or at 7", mother.may(0), 2);
        Due.due("may(1): DEEP at 3", mother.may(1), 232);
        mother.turn(3, 5);
        Due.due("may(0), against itself", mother.may(0), 0);
        Due.due("may(1), against itself", mother.may(1), PearlMother.NONE);
        Due.due("next(), against itself", mother.next(), PearlMother.NONE);
    }

    private static void next() {
        PearlMother mother = new PearlMother();
        Due.due("next() at first", mother.next(), 0);
        mother.turn(3, 2);
        mother.turn(5, 5);
        Due.due("next()", mother.next(), 0);
        mother.unturn();
        mother.turn(0, 3);
        mother.turn(2, 5);
        Due.due("next()", mother.next(), 1);
        mother.unturn();
        for (int angle : new int[] {0, 1, 2, 4, 5, 6}) {
            mother.turn(angle, 5);
        }
        Due.due("may(0): DULL at 3 or at 7", mother.may(0), 10);
        Due.due("next(): it may be seen at 3", mother.next(), 3);
        mother.unturn();
        mother.turn(4, 0);
        mother.turn(3, 5);
        mother.turn(5, 5);
        Due.due("may(0): DULL at 4 alone", mother.may(0), 1);
        Due.due("may(1): DULL at 4 alone", mother.may(1), 41);
        Due.due("next(): all ANGLES are alike", mother.next(), 0);
        mother.unturn();
        mother.turn(4, 0);
        mother.turn(7, 5);
        mother.turn(1, 5);
        Due.due("next() in which SLEEVE is an answer", mother.next(), 2);
    }
}
