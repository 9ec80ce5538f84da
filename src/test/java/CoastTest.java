/** Promises 1 to 9: a new object, THE TEXT, its FAULT, THE COAST, what is told of it. */
public final class CoastTest {
    public static void main(String[] args) {
        nobodyNothing();
        writing();
        wiping();
        faults();
        coasts();
        abouts();
        holders();
        pieces();
        showing();
        Due.end("CoastTest");
    }

    private static void nobodyNothing() {
        PearlMother mother = new PearlMother();
        for (int what = 0; what <= 8; what++) {
            Due.due("new: about(" + what + ")", mother.about(what), 0);
        }
        Due.due("new: holder(0, 0)", mother.holder(0, 0), PearlMother.UNKNOWN);
        Due.due("new: piece(0, 0)", mother.piece(0, 0), PearlMother.UNKNOWN);
        Due.due("new: undo()", mother.undo(), PearlMother.LATE);
        Due.due("new: seed(0)", mother.seed(0), 0);
        Due.due("new: again(0)", mother.again(0), PearlMother.LATE);
        Due.due("new: again(1)", mother.again(1), PearlMother.LATE);
        Due.due("new: unturn()", mother.unturn(), 0);
    }

    private static void writing() {
        PearlMother mother = new PearlMother();
        Due.due("write(-1)", mother.write(-1), PearlMother.BAD);
        Due.due("write(256)", mother.write(256), PearlMother.BAD);
        Due.due("write(0)", mother.write(0), 1);
        Due.due("write(255)", mother.write(255), 2);
        for (int length = 3; length <= 48; length++) {
            Due.due("write(80)", mother.write(80), length);
        }
        Due.due("write(80) behind 48", mother.write(80), PearlMother.FULL);
        Due.due("write(256) behind 48", mother.write(256), PearlMother.BAD);
        Due.due("about(8) of 48", mother.about(8), 48);
        Due.due("fault() of bytes 0, 255", mother.fault(), 0);
    }

    private static void wiping() {
        PearlMother mother = Due.coast("P3H0");
        Due.due("wipe()", mother.wipe(), 4);
        Due.due("wipe() of nothing", mother.wipe(), 0);
        Due.due("about(8) wiped", mother.about(8), 0);
        Due.due("wiping leaves THE COAST", mother.about(0), 1);
        Due.due("fault() wiped", mother.fault(), 0);
        Due.due("write(80) wiped", mother.write(80), 1);
    }

    private static void fault(String text, int want) {
        PearlMother mother = new PearlMother();
        Due.write(mother, text);
        Due.due("fault() of " + text, mother.fault(), want);
        Due.due("fault() once more", mother.fault(), want);
        if (want != PearlMother.NONE) {
            Due.due("coast() of " + text, mother.coast(), PearlMother.LATE);
        }
    }

    private static void faults() {
        int none = PearlMother.NONE;
        fault("", 0);
        fault("p", 0);
        fault("H", 0);
        fault("P", 1);
        fault("P8", 1);
        fault("P/", 1);
        fault("PP", 1);
        fault("P7", none);
        fault("P0", none);
        fault("P0H", 3);
        fault("P0H4", 3);
        fault("P0HH", 3);
        fault("P0H3", none);
        fault("P0X", 2);
        fault("P0C", 2);
        fault("P0C0000H0", 2);
        fault("P00", 2);
        fault("P0h", 2);
        fault("P0H0C", 5);
        fault("P0H0C5", 5);
        fault("P0H0C4", 6);
        fault("P0H0C48", 6);
        fault("P0H0C47", 7);
        fault("P0H0C474", 7);
        fault("P0H0C473", 8);
        fault("P0H0C4731", 8);
        fault("P0H0C4730", none);
        fault("P0H0C47301", 9);
        fault("P0H0H0C4731", none);
        fault("P0H0H0C4732", 10);
        fault("P0H0C0001H0", 8);
        fault("P0H0H0H0H0", none);
        fault("P0H0H0H0H0H", 10);
        fault("P0H0H0H0H0C0003", none);
        String six = "P0H0C0000C0000C0000C0000C0000C0000";
        fault(six, none);
        fault(six + "C", 34);
        fault(six + "H", 35);
        fault(six + "H0H0H0", none);
        fault(six + "H0H0H0H", 40);
        fault(six + "H0H0H0C", 40);
        fault(six + "H0H0H0P0", 40);
        fault("P0 H0", 2);
        fault("P0H0" + (char) 200, 4);
    }

    private static void coasts() {
        PearlMother mother = Due.coast("P3H0H1C2300C0611");
        Due.due("about(8) behind coast()", mother.about(8), 16);
        mother.tilt(0, true);
        mother.give(1, 0);
        mother.hour();
        mother.turn(1, 2);
        mother.seed(77);
        mother.keep(0);
        mother.keep(1);
        mother.write('X');
        Due.due("coast() with a FAULT", mother.coast(), PearlMother.LATE);
        Due.due("a refused coast() leaves ACTS", mother.about(6), 3);
        Due.due("a refused coast() leaves LIGHT", mother.about(2), 4);
        Due.due("a refused coast() leaves PIECES", mother.about(1), 2);
        Due.due("a refused coast() leaves TILTS", mother.piece(0, 3), 1);
        Due.due("a refused coast() leaves SLOTS", mother.again(0), 1);
        mother.hour();
        mother.wipe();
        Due.write(mother, "P6H3H2H1C4711");
        Due.due("fault() of another text", mother.fault(), PearlMother.NONE);
        Due.due("a text is no COAST yet: HOLDERS", mother.about(0), 2);
        Due.due("a text is no COAST yet: PART", mother.piece(0, 0), 2);
        Due.due("a text is no COAST yet: KIND", mother.holder(0, 0), 0);
        Due.due("coast()", mother.coast(), 31);
        Due.due("coast() anew: LIGHT", mother.about(2), 6);
        Due.due("coast() anew: THE HOUR", mother.about(3), 0);
        Due.due("coast() anew: ACTS", mother.about(6), 0);
        Due.due("coast() anew: undo()", mother.undo(), PearlMother.LATE);
        Due.due("coast() anew: TURNED stays", mother.about(7), 1);
        Due.due("coast() anew: the text stays", mother.about(8), 13);
        Due.due("coast() anew: TILT", mother.piece(0, 3), 0);
        Due.due("coast() anew: who holds it", mother.piece(0, 4), 1);
        Due.due("coast() anew: again(0)", mother.again(0), PearlMother.LATE);
        Due.due("coast() anew: again(1)", mother.again(1), PearlMother.LATE);
        Due.due("coast() anew: THE SEED stays", mother.seed(0), 77);
        mother.tilt(0, false);
        mother.hour();
        mother.give(0, 2);
        Due.due("coast() of the same text", mother.coast(), 31);
        Due.due("the same text: TILT", mother.piece(0, 3), 0);
        Due.due("the same text: who holds it", mother.piece(0, 4), 1);
        Due.due("the same text: LIGHT", mother.about(2), 6);
        mother.wipe();
        Due.write(mother, "P5");
        Due.due("coast() of nobody", mother.coast(), 0);
        Due.due("of nobody: PIECES", mother.about(1), 0);
        Due.due("of nobody: LIGHT", mother.about(2), 5);
        Due.due("of nobody: holder(0, 0)", mother.holder(0, 0), PearlMother.UNKNOWN);
        Due.due("of nobody: piece(0, 0)", mother.piece(0, 0), PearlMother.UNKNOWN);
    }

    private static void abouts() {
        PearlMother mother = Due.coast("P3H0H1H2H3C2300C0610C3422C4131C2512C1403");
        int[] want = {4, 6, 3, 0, 5, 28, 0, 0, 40};
        for (int what = 0; what < want.length; what++) {
            Due.due("about(" + what + ")", mother.about(what), want[what]);
        }
        Due.due("about(-1)", mother.about(-1), PearlMother.BAD);
        Due.due("about(9)", mother.about(9), PearlMother.BAD);
        PearlMother first = Due.coast("P2H0H0C3310C4410");
        Due.due("about(5), nothing is seen yet", first.about(5), 0);
        first.hour();
        Due.due("about(5) by the first HOLDER", first.about(5), 8);
        Due.due("holder(0, 2)", first.holder(0, 2), 8);
        first.hour();
        Due.due("about(5) an hour later", first.about(5), 16);
        Due.due("holder(0, 2) an hour later", first.holder(0, 2), 16);
        mother.hour();
        mother.hour();
        mother.turn(0, 0);
        Due.due("about(2) later", mother.about(2), 5);
        Due.due("about(3) later", mother.about(3), 2);
        Due.due("about(4) later", mother.about(4), 4);
        Due.due("about(6) later", mother.about(6), 2);
        Due.due("about(7) later", mother.about(7), 1);
    }

    private static void holders() {
        PearlMother mother = Due.coast("P3H0H1H2H3C2300C0610C3422C4131C2512C1403");
        int[] held = {3, 8, 20, 32};
        int[] seen = {4, 16, 12, 0};
        for (int holder = 0; holder < 4; holder++) {
            Due.due("holder " + holder + ": KIND", mother.holder(holder, 0), holder);
            Due.due("holder " + holder + ": holds", mother.holder(holder, 1), held[holder]);
            Due.due("holder " + holder + ": sees", mother.holder(holder, 2), seen[holder]);
        }
        Due.due("holder(0, 3)", mother.holder(0, 3), PearlMother.BAD);
        Due.due("holder(0, -1)", mother.holder(0, -1), PearlMother.BAD);
        Due.due("holder(4, 0)", mother.holder(4, 0), PearlMother.UNKNOWN);
        Due.due("holder(-1, 0)", mother.holder(-1, 0), PearlMother.UNKNOWN);
        Due.due("holder(4, 3)", mother.holder(4, 3), PearlMother.UNKNOWN);
    }

    private static void pieces() {
        PearlMother mother = Due.coast("P3H0H1C2300C0611");
        mother.tilt(1, false);
        int[] first = {2, 3, 0, 0, 0, 3, 1};
        int[] second = {0, 6, 1, 7, 1, 2, 0};
        for (int what = 0; what < 7; what++) {
            Due.due("piece(0, " + what + ")", mother.piece(0, what), first[what]);
            Due.due("piece(1, " + what + ")", mother.piece(1, what), second[what]);
        }
        for (int tilts = 0; tilts < 5; tilts++) {
            mother.tilt(1, true);
        }
        Due.due("piece(1, 5) tilted", mother.piece(1, 5), 7);
        Due.due("piece(1, 6): a DULL one to a CHILD, 1 off", mother.piece(1, 6), 1);
        mother.give(1, 0);
        Due.due("piece(1, 6): to a PLAIN one", mother.piece(1, 6), 0);
        Due.due("piece(0, 7)", mother.piece(0, 7), PearlMother.BAD);
        Due.due("piece(0, -1)", mother.piece(0, -1), PearlMother.BAD);
        Due.due("piece(2, 0)", mother.piece(2, 0), PearlMother.UNKNOWN);
        Due.due("piece(-1, 9)", mother.piece(-1, 9), PearlMother.UNKNOWN);
    }

    /** By how far a KIND of PIECE is shown at 0 .. 4 APART from its own ANGLE, as bits. */
    private static void showing() {
        String[] kinds = {"11000", "10000", "11011", "11100"};
        String[] toChildren = {"11100", "11000", "11111", "11110"};
        for (int own = 0; own < 8; own++) {
            PearlMother mother = Due.coast("P5H0H1H2H3" + "C0" + own + "00C1" + own + "10C3" + own
                    + "20C4" + own + "30C2" + own + "10C2" + own + "20");
            for (int angle = 0; angle < 8; angle++) {
                int apart = Math.min(Math.floorMod(own - angle, 8), Math.floorMod(angle - own, 8));
                for (int piece = 0; piece < 6; piece++) {
                    int kind = piece < 4 ? piece : piece - 3;
                    int plain = kinds[kind].charAt(apart) - '0';
                    int child = toChildren[kind].charAt(apart) - '0';
                    String call = "shows " + piece + ", own " + own + ", at " + angle + ", to ";
                    Due.due(call + "PLAIN", mother.shows(piece, 0, angle), plain);
                    Due.due(call + "CHILD", mother.shows(piece, 1, angle), child);
                    Due.due(call + "GAMBLER", mother.shows(piece, 2, angle), piece < 4 ? plain : 1);
                    Due.due(call + "BLIND", mother.shows(piece, 3, angle), 0);
                }
            }
            Due.due("shows(6, 0, 0)", mother.shows(6, 0, 0), PearlMother.UNKNOWN);
            Due.due("shows(-1, 0, 0)", mother.shows(-1, 0, 0), PearlMother.UNKNOWN);
            Due.due("shows(0, 4, 0)", mother.shows(0, 4, 0), PearlMother.UNKNOWN);
            Due.due("shows(0, -1, 8)", mother.shows(0, -1, 8), PearlMother.UNKNOWN);
            Due.due("shows(0, 0, 8)", mother.shows(0, 0, 8), PearlMother.BAD);
            Due.due("shows(0, 0, -1)", mother.shows(0, 0, -1), PearlMother.BAD);
        }
    }
}
