import static java.util.Map.entry;

import java.util.Map;

/** Sentences of the terms on THE TEXT and THE COAST, and promises 1 to 5. */
final class CoastEdges {
    private static final int TERMS = Sentences.TERMS;
    private static final int NONE = PearlMother.NONE;
    private static final String SIX = "C0000C1111C2220C3331C4400C0511";
    private static final String LONGEST = "P7H0H1H2H3" + SIX;

    private CoastEdges() {
    }

    static void run(Sentences doc) {
        doc.says(TERMS, "PIECES are 0, 1, .. (6 at most),", CoastEdges::sixPieces);
        doc.says(TERMS, "HOLDERS 0, 1, .. (4 at most).", CoastEdges::fourHolders);
        doc.says(TERMS, "THE TEXT is bytes (48 at most).", CoastEdges::fortyEightBytes);
        doc.says(TERMS, "A COAST is a TEXT: P, LIGHT (0 .. 7),", CoastEdges::markAndLight);
        doc.says(TERMS, "then THINGS, none or more,", CoastEdges::noneOrMore);
        doc.says(TERMS, "numbered as they are told, each kind for itself:", CoastEdges::numbered);
        doc.says(TERMS, "Hk a HOLDER of KIND k (0 PLAIN, 1 CHILD, 2 GAMBLER, 3 BLIND)", CoastEdges::holderKinds);
        doc.says(TERMS, "Cpakh a PIECE (cut) in which PART p (0 .. 4)", () -> figure("P0H0C", "000", 0, 4));
        doc.says(TERMS, "shows at ANGLE a (0 .. 7),", () -> figure("P0H0C0", "00", 1, 7));
        doc.says(TERMS, "of KIND k (0 PLAIN, 1 DULL, 2 DEEP, 3 WIDE),", () -> figure("P0H0C00", "0", 2, 3));
        doc.says(TERMS, "held by HOLDER h (told ahead)", CoastEdges::toldAhead);
        doc.says(TERMS, "FAULT: the place (from 0) of the first byte by which THE TEXT can be no COAST,",
                CoastEdges::everyByteEverywhere);
        doc.says(TERMS, "whatever came behind it", CoastEdges::whateverCameBehind);
        doc.says(TERMS, "(its length set aside);", CoastEdges::lengthSetAside);
        doc.says(TERMS, "its length, if it is only not at its end;", CoastEdges::notAtItsEnd);
        doc.says(TERMS, "NONE: none.", CoastEdges::noFault);
        doc.says(TERMS, "At first LIGHT is 0, there are no HOLDERS, no PIECES.", CoastEdges::atFirst);
        doc.says(TERMS, "When THE COAST is made anew, all PIECES are at TILT 0, THE HOUR is 0.", CoastEdges::anew);

        doc.says(1, "Nobody, nothing.", CoastEdges::nobodyNothing);
        doc.says(2, "A byte (0 .. 255) comes behind THE TEXT: how long it is.", CoastEdges::byteBehind);
        doc.says(2, "BAD;", CoastEdges::noByte);
        doc.says(2, "FULL: there are 48.", CoastEdges::fullText);
        doc.says(3, "THE TEXT is empty: how long it was.", CoastEdges::wiped);
        doc.says(4, "FAULT;", () -> fault("P0H0C000X", 8));
        doc.says(4, "NONE.", () -> fault("P0H0C0000", NONE));
        promiseFive(doc);
    }

    private static void promiseFive(Sentences doc) {
        doc.says(5, "THE TEXT is THE COAST", CoastEdges::textIsCoast);
        doc.says(5, "(THE TEXT itself stays;", CoastEdges::textStays);
        doc.says(5, "no ACTS;", () -> Due.due("ACTS", anewFrom(Whole.full()).about(6), 0));
        doc.says(5, "what was kept is gone;", CoastEdges::keptIsGone);
        doc.says(5, "TURNED, THE SEED stay):", CoastEdges::turnedAndSeedStay);
        doc.says(5, "10 times HOLDERS, and PIECES.", CoastEdges::coastTells);
        doc.says(5, "LATE: a FAULT.", CoastEdges::faultyIsLate);
    }

    private static void fault(String text, int want) {
        PearlMother mother = new PearlMother();
        Due.write(mother, text);
        Due.due("fault() of " + text, mother.fault(), want);
    }

    /** Another COAST told to an object, whatever its text was. */
    private static PearlMother anewFrom(PearlMother mother) {
        mother.wipe();
        Due.write(mother, "P6H3H2H1C4711");
        Due.due("coast() anew", mother.coast(), 31);
        return mother;
    }

    private static void sixPieces() {
        PearlMother mother = Due.coast("P0H0H1" + SIX);
        Due.due("PIECES", mother.about(1), 6);
        for (int piece = 0; piece < 6; piece++) {
            Due.due("PART of " + piece, mother.piece(piece, 0), piece % 5);
            Due.due("ANGLE of " + piece, mother.piece(piece, 1), piece);
        }
        Due.due("piece(6, 0)", mother.piece(6, 0), PearlMother.UNKNOWN);
        fault("P0H0H1" + SIX, NONE);
        fault("P0H0H1" + SIX + "C", 36);
        fault("P0H0H1" + SIX + "H0C0000", 38);
        fault("P0H0H1" + SIX + "C0000", 36);
        mother.write('C');
        Due.due("coast() of a seventh", mother.coast(), PearlMother.LATE);
    }

    private static void fourHolders() {
        PearlMother mother = Due.coast("P0H3H2H1H0");
        Due.due("HOLDERS", mother.about(0), 4);
        for (int holder = 0; holder < 4; holder++) {
            Due.due("KIND of " + holder, mother.holder(holder, 0), 3 - holder);
        }
        Due.due("holder(4, 0)", mother.holder(4, 0), PearlMother.UNKNOWN);
        fault("P0H3H2H1H0", NONE);
        fault("P0H3H2H1H0H", 10);
        fault("P0H3H2H1H0H0", 10);
        fault("P0H3H2H1H0C0003H0", 15);
        mother.write('H');
        mother.write('0');
        Due.due("coast() of a fifth", mother.coast(), PearlMother.LATE);
    }

    private static void fortyEightBytes() {
        PearlMother mother = new PearlMother();
        for (int length = 1; length <= 48; length++) {
            Due.due("write, byte " + length, mother.write(length), length);
        }
        Due.due("write, byte 49", mother.write(49), PearlMother.FULL);
        Due.due("bytes", mother.about(8), 48);
    }

    private static void markAndLight() {
        for (int light = 0; light <= 7; light++) {
            PearlMother mother = Due.coast("P" + light);
            Due.due("LIGHT told as " + light, mother.about(2), light);
        }
        fault("P8", 1);
        fault("P9", 1);
        fault("P/", 1);
        fault("PH0", 1);
        fault("p0", 0);
        fault("0", 0);
        fault("", 0);
        fault("P", 1);
        fault("P00", 2);
        fault("P0P0", 2);
    }

    private static void noneOrMore() {
        PearlMother mother = anewFrom(new PearlMother());
        mother.wipe();
        Due.write(mother, "P4");
        Due.due("coast() of no THINGS", mother.coast(), 0);
        Due.due("HOLDERS", mother.about(0), 0);
        Due.due("PIECES", mother.about(1), 0);
        Due.due("holder(0, 0)", mother.holder(0, 0), PearlMother.UNKNOWN);
        Due.due("piece(0, 0)", mother.piece(0, 0), PearlMother.UNKNOWN);
        Due.due("one THING", Due.coast("P4H0").about(0), 1);
        Due.due("ten THINGS", Due.coast(LONGEST).about(1), 6);
    }

    private static void numbered() {
        PearlMother mother = Due.coast("P0H2C1230H1C3011H0C4712");
        int[] kinds = {2, 1, 0};
        int[] parts = {1, 3, 4};
        int[] angles = {2, 0, 7};
        for (int number = 0; number < 3; number++) {
            Due.due("KIND of HOLDER " + number, mother.holder(number, 0), kinds[number]);
            Due.due("PART of PIECE " + number, mother.piece(number, 0), parts[number]);
            Due.due("ANGLE of PIECE " + number, mother.piece(number, 1), angles[number]);
            Due.due("who holds PIECE " + number, mother.piece(number, 4), number);
        }
    }

    private static void holderKinds() {
        for (int kind = 0; kind <= 3; kind++) {
            Due.due("KIND told as " + kind, Due.coast("P0H" + kind).holder(0, 0), kind);
        }
        fault("P0H4", 3);
        fault("P0H9", 3);
        fault("P0H/", 3);
        fault("P0H", 3);
    }

    /** A figure of a PIECE, from 0 to the highest and no further, as piece(0, what) tells it. */
    private static void figure(String ahead, String behind, int what, int highest) {
        for (int figure = 0; figure <= highest; figure++) {
            PearlMother mother = Due.coast(ahead + figure + behind);
            Due.due("piece(0, " + what + ") told as " + figure, mother.piece(0, what), figure);
        }
        fault(ahead + (char) ('0' + highest + 1) + behind, ahead.length());
        fault(ahead + '9' + behind, ahead.length());
        fault(ahead + '/' + behind, ahead.length());
        fault(ahead, ahead.length());
    }

    private static void toldAhead() {
        for (int holder = 0; holder < 4; holder++) {
            Due.due("who holds it", Due.coast("P0H0H0H0H0C000" + holder).piece(0, 4), holder);
        }
        fault("P0H0H0H0H0C0004", 14);
        fault("P0H0C0001", 8);
        fault("P0H0C0001H0", 8);
        fault("P0H0C0000H0C0001", NONE);
        fault("P0H0H0C0002H0", 10);
        // nobody is told ahead: no HOLDER can follow within this PIECE
        fault("P0C", 2);
        fault("P0C0000H0", 2);
    }

    /** What may come behind each text; every other of the 256 bytes is a FAULT at its place. */
    private static void everyByteEverywhere() {
        Map<String, String> mayFollow = Map.ofEntries(
                entry("", "P"), entry("P", "01234567"), entry("P0", "H"), entry("P0H", "0123"), entry("P0H0", "HC"),
                entry("P0H0C", "01234"), entry("P0H0C0", "01234567"), entry("P0H0C00", "0123"),
                entry("P0H0C000", "0"), entry("P0H0H0C000", "01"), entry("P0H0H0H0C000", "012"),
                entry("P0H0H0H0H0C000", "0123"), entry("P0H0C0000", "HC"), entry("P0H0H0H0H0", "C"),
                entry("P0H0C0000C0000C0000C0000C0000C0000", "H"), entry(LONGEST, ""));
        for (Map.Entry<String, String> text : mayFollow.entrySet()) {
            PearlMother mother = new PearlMother();
            for (int letter = 0; letter <= 255; letter++) {
                if (letter % 8 == 0) {
                    mother = new PearlMother();
                }
                mother.wipe();
                Due.write(mother, text.getKey());
                mother.write(letter);
                boolean may = text.getValue().indexOf(letter) >= 0;
                int length = text.getKey().length();
                boolean isPlace = mother.fault() == length;
                Due.holds("a FAULT at " + length + " of " + text.getKey() + " and byte " + letter, isPlace == !may);
            }
        }
    }

    private static void whateverCameBehind() {
        String[] wrong = {"Q", "P8", "P0X", "P0C", "P0H4", "P0H0C5", "P0H0C08", "P0H0C004", "P0H0C0001",
            "P0H0H0H0H0H", LONGEST + "C"};
        for (String text : wrong) {
            int place = text.length() - 1;
            fault(text, place);
            for (String more : new String[] {"0", "P0", "H0", "H0C0000", "0000", "X", "P0H0H"}) {
                fault(text + more, place);
            }
            fault((text + "HC".repeat(24)).substring(0, 48), place);
        }
        // of two that are wrong the first is told
        fault("P9H9", 1);
        fault("P0H9C9", 3);
    }

    private static void lengthSetAside() {
        Due.due("the longest COAST's bytes", LONGEST.length(), 40);
        fault(LONGEST, NONE);
        // by a THING too many, not by the text's 48 bytes
        fault(LONGEST + "C0000C00", 40);
        fault(LONGEST + "H0H0H0H0", 40);
        fault("P0" + "H0".repeat(23), 10);
        fault(("P0H0" + "C0000".repeat(9)).substring(0, 48), 34);
    }

    private static void notAtItsEnd() {
        for (int length = 0; length < LONGEST.length(); length++) {
            boolean atItsEnd = length >= 2 && length <= 10 && length % 2 == 0 || length > 10 && length % 5 == 0;
            fault(LONGEST.substring(0, length), atItsEnd ? NONE : length);
        }
        PearlMother mother = new PearlMother();
        Due.due("fault() of nothing", mother.fault(), 0);
        Due.due("coast() of nothing", mother.coast(), PearlMother.LATE);
    }

    private static void noFault() {
        fault("P0", NONE);
        fault("P7H3", NONE);
        fault("P7H3C4730", NONE);
        fault("P0H0C0000H0C0001H0C0002H0C0003C0000C0000", NONE);
    }

    private static void atFirst() {
        PearlMother mother = new PearlMother();
        Due.due("LIGHT at first", mother.about(2), 0);
        Due.due("HOLDERS at first", mother.about(0), 0);
        Due.due("PIECES at first", mother.about(1), 0);
        Due.due("hour() at first", mother.hour(), 1);
    }

    private static void anew() {
        PearlMother mother = Due.coast(LONGEST);
        for (int piece = 0; piece < 6; piece++) {
            mother.tilt(piece, piece % 2 == 0);
            mother.give(piece, 3);
            mother.hour();
        }
        Due.due("coast() of the same text", mother.coast(), 46);
        for (int piece = 0; piece < 6; piece++) {
            Due.due("TILT of " + piece, mother.piece(piece, 3), 0);
            Due.due("who holds " + piece, mother.piece(piece, 4), piece % 2);
        }
        Due.due("THE HOUR", mother.about(3), 0);
        Due.due("LIGHT", mother.about(2), 7);
    }

    private static void nobodyNothing() {
        PearlMother mother = new PearlMother();
        for (int what = 0; what <= 8; what++) {
            Due.due("about(" + what + ")", mother.about(what), 0);
        }
        Due.due("fault()", mother.fault(), 0);
        Due.due("mothers()", mother.mothers(), 0);
        Due.due("giving(false)", mother.giving(false), 0);
        Due.due("giving(true)", mother.giving(true), 0);
        Due.due("may(0)", mother.may(0), 160);
        Due.due("next()", mother.next(), 0);
        Due.due("years(30)", mother.years(30), 0);
        Due.holds("THE SEED is gone on from 0", mother.seed(3) != 0);
        Due.due("undo()", mother.undo(), PearlMother.LATE);
        Due.due("unturn()", mother.unturn(), 0);
        Due.due("wipe()", mother.wipe(), 0);
        for (int slot = 0; slot < 2; slot++) {
            Due.due("again(" + slot + ")", mother.again(slot), PearlMother.LATE);
        }
        Due.due("seed(0) of another", new PearlMother().seed(0), 0);
    }

    private static void byteBehind() {
        PearlMother mother = new PearlMother();
        for (int letter = 0; letter <= 255; letter++) {
            Due.due("write(" + letter + ")", mother.write(letter), letter % 48 + 1);
            if (letter % 48 == 47) {
                mother.wipe();
            }
        }
        PearlMother order = new PearlMother();
        Due.due("write('P')", order.write('P'), 1);
        Due.due("write('5')", order.write('5'), 2);
        Due.due("coast()", order.coast(), 0);
        Due.due("the second byte is LIGHT", order.about(2), 5);
        fault("5P", 0);
    }

    private static void noByte() {
        for (int letter : new int[] {-1, 256, 'P' + 256, 'P' - 256, Integer.MIN_VALUE, Integer.MAX_VALUE}) {
            Whole.leaves("write(" + letter + ")", PearlMother::new, mother -> mother.write(letter), PearlMother.BAD);
        }
    }

    private static void fullText() {
        PearlMother mother = new PearlMother();
        Due.write(mother, LONGEST + "CCCCCCC");
        Due.due("the 48th byte", mother.write('C'), 48);
        Due.due("the 49th byte", mother.write('C'), PearlMother.FULL);
        Due.due("bytes", mother.about(8), 48);
        Due.due("fault()", mother.fault(), 40);
        Due.due("wipe()", mother.wipe(), 48);
        Due.due("there is room again", mother.write('P'), 1);
    }

    private static void wiped() {
        PearlMother mother = new PearlMother();
        Due.due("wipe() of nothing", mother.wipe(), 0);
        for (int length : new int[] {1, 47, 48}) {
            Due.write(mother, "H".repeat(length));
            Due.due("wipe()", mother.wipe(), length);
            Due.due("bytes", mother.about(8), 0);
            Due.due("fault()", mother.fault(), 0);
            Due.due("wipe() once more", mother.wipe(), 0);
        }
        Due.write(mother, "P0");
        Due.due("what was wiped is gone", mother.fault(), NONE);
        Whole.changes("wipe()", Whole::full, PearlMother::wipe, Whole.TEXT);
    }

    private static void textIsCoast() {
        PearlMother mother = anewFrom(Whole.full());
        Due.due("HOLDERS", mother.about(0), 3);
        Due.due("PIECES", mother.about(1), 1);
        Due.due("LIGHT", mother.about(2), 6);
        int[] kinds = {3, 2, 1};
        for (int holder = 0; holder < 3; holder++) {
            Due.due("KIND", mother.holder(holder, 0), kinds[holder]);
        }
        int[] piece = {4, 7, 1, 0, 1, 6, 0};
        for (int what = 0; what < 7; what++) {
            Due.due("piece(0, " + what + ")", mother.piece(0, what), piece[what]);
        }
        Due.due("holder(3, 0), gone", mother.holder(3, 0), PearlMother.UNKNOWN);
        Due.due("piece(1, 0), gone", mother.piece(1, 0), PearlMother.UNKNOWN);
        PearlMother told = Due.coast("P3H0");
        Due.write(wipedOf(told), "P5");
        Due.due("a text alone is no COAST", told.about(2), 3);
        Due.due("fault()", told.fault(), NONE);
        Due.due("nor is one that is looked at", told.about(0), 1);
    }

    private static PearlMother wipedOf(PearlMother mother) {
        mother.wipe();
        return mother;
    }

    private static void textStays() {
        PearlMother mother = anewFrom(new PearlMother());
        Due.due("bytes", mother.about(8), 13);
        Due.due("fault()", mother.fault(), NONE);
        Due.due("coast() once more", mother.coast(), 31);
        Due.due("a byte comes behind it", mother.write('H'), 14);
        Due.due("another", mother.write('0'), 15);
        Due.due("coast() of it all", mother.coast(), 41);
    }

    private static void keptIsGone() {
        PearlMother mother = Whole.full();
        mother.wipe();
        Due.write(mother, "P0");
        Due.due("coast()", mother.coast(), 0);
        for (int slot = 0; slot < 2; slot++) {
            Due.due("again(" + slot + ")", mother.again(slot), PearlMother.LATE);
        }
        Due.due("LIGHT", mother.about(2), 0);
        mother.keep(1);
        Due.due("again(0), the other one was kept", mother.again(0), PearlMother.LATE);
        Due.due("again(1)", mother.again(1), 0);
    }

    private static void turnedAndSeedStay() {
        PearlMother mother = anewFrom(Whole.busy());
        Due.due("TURNED", mother.about(7), 2);
        Due.due("may(0)", mother.may(0), 7);
        Due.due("may(1)", mother.may(1), 213);
        Due.due("THE SEED", mother.seed(0), 77);
        PearlMother full = anewFrom(Whole.full());
        Due.due("turn, the seventh", full.turn(0, 0), PearlMother.FULL);
        Due.due("THE SEED", full.seed(0), -1);
    }

    private static void coastTells() {
        for (int holders = 1; holders <= 4; holders++) {
            for (int pieces = 0; pieces <= 6; pieces++) {
                PearlMother mother = new PearlMother();
                Due.write(mother, "P0" + "H0".repeat(holders) + "C0000".repeat(pieces));
                Due.due("coast()", mother.coast(), 10 * holders + pieces);
            }
        }
        Due.coast("P0");
    }

    private static void faultyIsLate() {
        for (String text : new String[] {"", "P", "Q0", "P8", "P0H", "P0H4", "P0C0000", "P0H0C", "P0H0C0001", "P0X"}) {
            PearlMother mother = new PearlMother();
            Due.write(mother, text);
            Due.due("coast() of " + text, mother.coast(), PearlMother.LATE);
        }
        Whole.leaves("coast() of a text not at its end", Whole::busy, PearlMother::coast, PearlMother.LATE);
        Whole.leaves("coast() of a text with a FAULT", Whole::full, PearlMother::coast, PearlMother.LATE);
        Whole.leaves("coast() of nothing", PearlMother::new, PearlMother::coast, PearlMother.LATE);
    }
}
