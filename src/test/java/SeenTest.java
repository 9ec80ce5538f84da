/** Promises 14 to 21: what is seen, by tilts, by hours, by giving, by doings, by shares. */
public final class SeenTest {
    private static final String COAST = "P3H0H1H2H3C2300C0610C3422C4131C2512C1403";

    public static void main(String[] args) {
        tilts();
        finds();
        all();
        when();
        mothers();
        giving();
        judging();
        sharing();
        Due.end("SeenTest");
    }

    private static void tilts() {
        for (int light = 0; light < 8; light++) {
            PearlMother mother = Due.coast("P" + light + "H0H1H2H3C0000C0010C0020C0030C2010");
            int apart = Math.min(light, 8 - light);
            int other = Math.min(apart, 4 - apart);
            int[] plain = {apart - 1, apart, other - 1, apart - 2, apart};
            for (int piece = 0; piece < 5; piece++) {
                String call = "light " + light + ": tilts(" + piece + ", ";
                Due.due(call + "0)", mother.tilts(piece, 0), Math.max(0, plain[piece]));
                Due.due(call + "1)", mother.tilts(piece, 1), Math.max(0, plain[piece] - 1));
                Due.due(call + "2)", mother.tilts(piece, 2), piece == 4 ? 0 : Math.max(0, plain[piece]));
                Due.due(call + "3)", mother.tilts(piece, 3), PearlMother.NONE);
            }
            Due.due("tilts(5, 0)", mother.tilts(5, 0), PearlMother.UNKNOWN);
            Due.due("tilts(-1, 0)", mother.tilts(-1, 0), PearlMother.UNKNOWN);
            Due.due("tilts(0, 4)", mother.tilts(0, 4), PearlMother.UNKNOWN);
            Due.due("tilts(0, -1)", mother.tilts(0, -1), PearlMother.UNKNOWN);
        }
        PearlMother mother = Due.coast("P0H0C0410");
        mother.tilt(0, true);
        Due.due("tilts from a TILT", mother.tilts(0, 0), 3);
        mother.hour();
        Due.due("tilts from a TILT and LIGHT", mother.tilts(0, 0), 2);
        Due.due("nothing is changed", mother.piece(0, 3), 1);
    }

    private static void finds() {
        PearlMother mother = Due.coast("P0H0H1H3C0410C0300C1410C2412");
        Due.due("finds by the nearer PIECE", mother.finds(0, 0), 2);
        Due.due("finds another PART", mother.finds(0, 1), 4);
        Due.due("finds what another holds", mother.finds(0, 2), PearlMother.NONE);
        Due.due("finds of the BLIND", mother.finds(2, 2), PearlMother.NONE);
        Due.due("finds with no PIECES", mother.finds(1, 0), PearlMother.NONE);
        Due.due("finds(0, 5)", mother.finds(0, 5), PearlMother.BAD);
        Due.due("finds(0, -1)", mother.finds(0, -1), PearlMother.BAD);
        Due.due("finds(3, 0)", mother.finds(3, 0), PearlMother.UNKNOWN);
        Due.due("finds(-1, 5)", mother.finds(-1, 5), PearlMother.UNKNOWN);
        mother.give(1, 1);
        Due.due("finds, the nearer one given", mother.finds(0, 0), 4);
        Due.due("finds of a CHILD", mother.finds(1, 0), 1);
        PearlMother near = Due.coast("P0H0C0110C0310");
        Due.due("finds by the first of two", near.finds(0, 0), 1);
    }

    private static void all() {
        PearlMother mother = Due.coast("P0H0H2H3H3C0410C0300C1410C2411C2412C1201");
        Due.due("all: each PART by its nearest PIECE", mother.all(0), 6);
        Due.due("all of a GAMBLER", mother.all(1), 1);
        Due.due("all of the BLIND", mother.all(2), PearlMother.NONE);
        Due.due("all of who holds nothing, though BLIND", mother.all(3), 0);
        Due.due("all of the first PIECE alone", Due.coast("P0H0C4410").all(0), 4);
        Due.due("all(4)", mother.all(4), PearlMother.UNKNOWN);
        Due.due("all(-1)", mother.all(-1), PearlMother.UNKNOWN);
    }

    private static void when() {
        PearlMother mother = Due.coast("P6H0H3H0C0400C0510C1410C1510C2511");
        Due.due("when, the first of two", mother.when(0, 0), 5);
        Due.due("when, another PART", mother.when(0, 1), 6);
        Due.due("when of the BLIND", mother.when(1, 2), PearlMother.NONE);
        Due.due("when with no PIECES", mother.when(2, 0), PearlMother.NONE);
        mother.tilt(3, true);
        Due.due("when by a TILT", mother.when(0, 1), 6);
        mother.tilt(3, true);
        Due.due("when by a TILT, nearer", mother.when(0, 1), 5);
        for (int hours = 0; hours < 5; hours++) {
            mother.hour();
        }
        Due.due("when it is now", mother.when(0, 1), 0);
        PearlMother far = Due.coast("P6H0C0510");
        Due.due("when in 7 hours", far.when(0, 0), 7);
        Due.due("nothing is changed", far.about(3), 0);
        Due.due("when(0, 5)", far.when(0, 5), PearlMother.BAD);
        Due.due("when(0, -1)", far.when(0, -1), PearlMother.BAD);
        Due.due("when(1, 5)", far.when(1, 5), PearlMother.UNKNOWN);
        Due.due("when(-1, 0)", far.when(-1, 0), PearlMother.UNKNOWN);
    }

    private static void mothers(String pieces, int want) {
        Due.due("mothers() of " + pieces, Due.coast("P0H0" + pieces).mothers(), want);
    }

    private static void mothers() {
        Due.due("mothers() of nobody", new PearlMother().mothers(), 0);
        mothers("", 0);
        mothers("C0000", 1);
        mothers("C0000C1200", 1);
        mothers("C0000C1300", 2);
        mothers("C0000C0000", 2);
        mothers("C0700C1100", 1);
        mothers("C0600C1100", 2);
        mothers("C0000C1100C2200C3000C4100", 1);
        mothers("C0000C1100C2200C3300", 2);
        mothers("C0000C1200C2400C3600", 2);
        mothers("C0000C1000C2200C0200C1200", 2);
        mothers("C2000C2120C2230C2410C2530C2600", 6);
        PearlMother mother = Due.coast("P0H0H3C0000C1300");
        mother.tilt(1, false);
        mother.give(0, 1);
        Due.due("mothers() by their own ANGLES", mother.mothers(), 2);
    }

    private static void giving(String coast, int most, int way) {
        PearlMother mother = Due.coast(coast);
        Due.due("giving(false) of " + coast, mother.giving(false), most);
        Due.due("giving(true) of " + coast, mother.giving(true), way);
        Due.due("nothing is changed", mother.about(6), 0);
    }

    private static void giving() {
        Due.due("giving(true) of nobody", new PearlMother().giving(true), 0);
        Due.due("giving(false) of nobody", new PearlMother().giving(false), 0);
        giving("P0H0", 0, 0);
        giving(COAST, 5, 111131);
        giving("P0H3H3C0000C1000", 0, 11);
        giving("P0H0H0C0001C0001", 2, 12);
        giving("P0H0H0C0001C1001", 2, 11);
        giving("P0H3H0C0000C0000", 1, 12);
        giving("P0H0H0H0H0C0000C0000C0000C0000C0000C0000", 4, 111234);
        giving("P0H0H1C0000C0200C0300", 2, 121);
        giving("P0H0H0C4001C0001", 2, 11);
        giving("P0H0H0H0C4001C0001C4002C0001C4001C0001", 6, 112233);
        PearlMother mother = Due.coast("P0H0H1C0210C0110");
        Due.due("giving by LIGHT", mother.giving(true), 12);
        mother.hour();
        Due.due("giving by LIGHT, an hour later", mother.giving(true), 21);
        mother.tilt(0, true);
        Due.due("giving by TILT", mother.giving(true), 12);
        Due.due("giving by TILT: how many", mother.giving(false), 2);
    }

    private static void judge(PearlMother mother, int n, long row, int want) {
        Due.due("judge(" + n + ", " + row + ")", mother.judge(n, row), want);
    }

    private static void judging() {
        PearlMother mother = Due.coast(COAST);
        int none = PearlMother.NONE;
        judge(mother, 3, 101300420, 2);
        judge(mother, 2, 203213, none);
        judge(mother, 1, 100, none);
        judge(mother, 1, 101, none);
        judge(mother, 1, 102, 0);
        judge(mother, 1, 150, none);
        judge(mother, 1, 160, 0);
        judge(mother, 1, 200, 0);
        judge(mother, 1, 201, none);
        judge(mother, 1, 203, none);
        judge(mother, 1, 204, 0);
        judge(mother, 1, 261, 0);
        judge(mother, 1, 300, none);
        judge(mother, 1, 301, 0);
        judge(mother, 1, 310, 0);
        judge(mother, 1, 402, none);
        judge(mother, 1, 400, 0);
        judge(mother, 1, 405, 0);
        judge(mother, 1, 442, 0);
        judge(mother, 1, 500, 0);
        judge(mother, 1, 999, 0);
        judge(mother, 1, 0, 0);
        judge(mother, 4, 0, 0);
        judge(mother, 4, 300, 0);
        judge(mother, 2, 201201, 1);
        judge(mother, 3, 201200201, none);
        judge(mother, 3, 201402300, 1);
        judge(mother, 3, 201412300, none);
        judge(mother, 3, 300300402, 2);
        judge(mother, 2, 300402, none);
        judge(mother, 4, 300300100402L, none);
        judge(mother, 4, 300300101402L, 3);
        judge(mother, 4, 300300300400L, none);
        PearlMother narrow = Due.coast("P0H0C0110C1710");
        judge(narrow, 2, 101400, none);
        judge(narrow, 2, 100400, 1);
        judge(narrow, 2, 110401, none);
        judge(narrow, 2, 111401, 1);
        judge(narrow, 4, 101101100400L, none);
        judge(narrow, 4, 110100101300L, none);
        judge(mother, 4, 999999999999L, 0);
        judge(mother, 4, 1000000000000L, PearlMother.BAD);
        judge(mother, 4, Long.MAX_VALUE, PearlMother.BAD);
        judge(mother, 1, 1000, PearlMother.BAD);
        judge(mother, 3, 1000000000, PearlMother.BAD);
        judge(mother, 1, -1, PearlMother.BAD);
        judge(mother, 2, Long.MIN_VALUE, PearlMother.BAD);
        judge(mother, 0, 0, PearlMother.BAD);
        judge(mother, -1, 0, PearlMother.BAD);
        judge(mother, 5, 300300300300300L, PearlMother.BAD);
        Due.due("judging changes no ACTS", mother.about(6), 0);
        Due.due("judging changes no LIGHT", mother.about(2), 3);
        Due.due("judging changes no TILT", mother.piece(0, 3), 0);
        Due.due("judging changes no HOLDER", mother.piece(0, 4), 0);
        judge(new PearlMother(), 1, 300, none);
        judge(new PearlMother(), 1, 400, 0);
    }

    private static void share(PearlMother mother, int piece, int above, int below) {
        Due.due("share(" + piece + ", true)", mother.share(piece, true), above);
        Due.due("share(" + piece + ", false)", mother.share(piece, false), below);
    }

    private static void sharing() {
        PearlMother mother = Due.coast("P0H0H3H0C0000C0100C0702C0001C0400C1000");
        share(mother, 0, 1, 3);
        share(mother, 1, 1, 3);
        share(mother, 2, 1, 3);
        share(mother, 3, 0, 1);
        share(mother, 4, 0, 1);
        share(mother, 5, 1, 1);
        mother.give(3, 2);
        share(mother, 3, 1, 4);
        mother.tilt(0, true);
        mother.tilt(0, true);
        share(mother, 0, 0, 1);
        share(mother, 1, 1, 3);
        Due.due("share(6, true)", mother.share(6, true), PearlMother.UNKNOWN);
        Due.due("share(-1, false)", mother.share(-1, false), PearlMother.UNKNOWN);
    }
}
