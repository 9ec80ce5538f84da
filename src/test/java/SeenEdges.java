/** Sentences of the terms' second section, and promises 14 to 21. */
final class SeenEdges {
    private static final int TERMS = Sentences.TERMS;
    private static final int NONE = PearlMother.NONE;
    private static final int[] WRONG = {Integer.MIN_VALUE, -1, 2, 4, 6, 256, Integer.MAX_VALUE};

    private SeenEdges() {
    }

    static void run(Sentences doc) {
        doc.says(TERMS, "In what follows nothing is changed.", SeenEdges::nothingIsChanged);
        doc.says(TERMS, "TILTS of a PIECE for a HOLDER: the fewest (0 .. 4) by which it shows to it,",
                SeenEdges::fewestTilts);
        doc.says(TERMS, "if it held it", SeenEdges::ifItHeldIt);
        doc.says(TERMS, "(one way or the other: the fewer);", SeenEdges::theFewer);
        doc.says(TERMS, "NONE.", SeenEdges::noTilts);
        doc.says(TERMS, "FINDS for a HOLDER and a PART: the fewest TILTS of one PIECE that it holds by which it sees "
                + "that;", SeenEdges::fewestToFind);
        doc.says(TERMS, "NONE.", SeenEdges::findsNone);
        doc.says(TERMS, "ALL for a HOLDER: the fewest TILTS, all together, by which it sees, at once, all PARTS that "
                + "are in PIECES that it holds;", SeenEdges::allTogether);
        doc.says(TERMS, "NONE: it never can.", SeenEdges::neverCan);
        doc.says(TERMS, "WHEN for a HOLDER and a PART: in how many HOURS (0 .. 7) it sees that first, if nothing is "
                + "done;", SeenEdges::howManyHours);
        doc.says(TERMS, "NONE.", SeenEdges::whenNone);
        doc.says(TERMS, "MOTHERS: the fewest rows of PIECES in which all PIECES are, each in one,",
                SeenEdges::fewestRows);
        doc.says(TERMS, "no PART is twice in one row,", SeenEdges::noPartTwice);
        doc.says(TERMS, "and no two PIECES of a row are APART by more than 2", SeenEdges::noTwoFarApart);
        doc.says(TERMS, "(by their own ANGLES): how many.", SeenEdges::byTheirOwnAngles);
        givings(doc);
        judged(doc);
        shares(doc);

        doc.says(14, "TILTS;", () -> Due.due("tilts(0, 0)", Due.coast("P0H0C0310").tilts(0, 0), 3));
        doc.says(14, "NONE.", () -> Due.due("tilts(0, 0)", Due.coast("P0H3C0010").tilts(0, 0), NONE));
        doc.says(14, "UNKNOWN: piece, holder.", SeenEdges::tiltsUnknown);
        doc.says(15, "FINDS;", () -> Due.due("finds(0, 4)", Due.coast("P0H0C4310").finds(0, 4), 3));
        doc.says(15, "NONE.", () -> Due.due("finds(0, 4)", Due.coast("P0H0C3310").finds(0, 4), NONE));
        doc.says(15, "UNKNOWN;", SeenEdges::findsUnknown);
        doc.says(15, "BAD: part.", SeenEdges::findsBad);
        doc.says(16, "ALL;", () -> Due.due("all(0)", Due.coast("P0H0C4310C3500").all(0), 5));
        doc.says(16, "NONE.", () -> Due.due("all(0)", Due.coast("P0H3C4310").all(0), NONE));
        doc.says(16, "UNKNOWN.", SeenEdges::allUnknown);
        doc.says(17, "WHEN;", () -> Due.due("when(0, 4)", Due.coast("P0H0C4310").when(0, 4), 3));
        doc.says(17, "NONE.", () -> Due.due("when(0, 4)", Due.coast("P0H0C3310").when(0, 4), NONE));
        doc.says(17, "UNKNOWN;", SeenEdges::whenUnknown);
        doc.says(17, "BAD: part.", SeenEdges::whenBad);
        doc.says(18, "MOTHERS.", () -> Due.due("mothers()", Due.coast("P0H0C4310C3400C0700").mothers(), 2));
        doc.says(19, "GIVING: how many (way = false),",
                () -> Due.due("giving(false)", Due.coast("P0H3H0C4000C3000").giving(false), 2));
        doc.says(19, "the way (way = true).",
                () -> Due.due("giving(true)", Due.coast("P0H3H0C4000C3000").giving(true), 22));
        doc.says(20, "JUDGED;", () -> Due.due("judge(1, 100)", Due.coast("P0").judge(1, 100), 0));
        doc.says(20, "NONE.", () -> Due.due("judge(1, 300)", Due.coast("P0").judge(1, 300), NONE));
        doc.says(20, "BAD: n, row", SeenEdges::judgeBad);
        doc.says(20, "(0 or more, 3 n figures at most).", SeenEdges::figuresAtMost);
        doc.says(21, "SHARE.", () -> Due.due("share(0, false)", Due.coast("P0H0C0000C0000").share(0, false), 2));
        doc.says(21, "UNKNOWN.", SeenEdges::shareUnknown);
    }

    private static void nothingIsChanged() {
        for (int holder = 0; holder < 4; holder++) {
            int of = holder;
            Whole.changes("all(" + of + ")", Whole::full, one -> one.all(of));
            Whole.changes("tilts(" + of + ", 0)", Whole::full, one -> one.tilts(of, 0));
            Whole.changes("finds(" + of + ", 2)", Whole::full, one -> one.finds(of, 2));
            Whole.changes("when(" + of + ", 2)", Whole::full, one -> one.when(of, 2));
            Whole.changes("share(" + of + ", true)", Whole::full, one -> one.share(of, true));
            Whole.changes("glints(" + of + ", 2, 6, 3, true)", Whole::full, one -> one.glints(of, 2, 6, 3, true));
        }
        Whole.changes("mothers()", Whole::full, PearlMother::mothers);
        Whole.changes("giving(false)", Whole::full, one -> one.giving(false));
        Whole.changes("giving(true)", Whole::busy, one -> one.giving(true));
        Whole.changes("judge of all doings", Whole::full, one -> one.judge(4, 101200300442L));
        Whole.changes("judge, doings done", Whole::busy, one -> one.judge(4, 111201300300L));
        Whole.changes("may(1)", Whole::full, one -> one.may(1));
        Whole.changes("next()", Whole::full, PearlMother::next);
        Whole.changes("rests(0, 0, 1, 1)", Whole::full, one -> one.rests(0, 0, 1, 1));
        Whole.changes("fault()", Whole::busy, PearlMother::fault);
        Whole.changes("about(5)", Whole::full, one -> one.about(5));
        Whole.changes("shows(0, 0, 0)", Whole::full, one -> one.shows(0, 0, 0));
    }

    private static void fewestTilts() {
        // by KIND and own ANGLE, from where TILT and LIGHT are 0; for a CHILD 1 fewer each
        String[] plain = {"00123210", "01234321", "00100010", "00012100"};
        for (int own = 0; own < 8; own++) {
            PearlMother mother = Due.coast("P0H0H1C0" + own + "00C0" + own + "10C0" + own + "20C0" + own + "30");
            for (int kind = 0; kind < 4; kind++) {
                int want = plain[kind].charAt(own) - '0';
                Due.due("KIND " + kind + " of " + own, mother.tilts(kind, 0), want);
                Due.due("KIND " + kind + " of " + own + ", a CHILD", mother.tilts(kind, 1), Math.max(0, want - 1));
            }
        }
        PearlMother far = Due.coast("P0H0C0410");
        Due.due("4 at most", far.tilts(0, 0), 4);
        far.tilt(0, false);
        Due.due("fewer, once TILTED less", far.tilts(0, 0), 3);
        far.hour();
        far.hour();
        Due.due("by LIGHT", far.tilts(0, 0), 3);
        Due.due("0: it shows", Due.coast("P4H0C0410").tilts(0, 0), 0);
        Due.due("0: HER LOOK to a GAMBLER", Due.coast("P0H2C2410").tilts(0, 0), 0);
        Due.due("4: another PART to a GAMBLER", Due.coast("P0H2C1410").tilts(0, 0), 4);
    }

    private static void ifItHeldIt() {
        PearlMother mother = Due.coast("P0H3H0H1H2C2310");
        int[] tilts = {NONE, 3, 2, 0};
        for (int holder = 0; holder < 4; holder++) {
            Due.due("tilts(0, " + holder + ")", mother.tilts(0, holder), tilts[holder]);
        }
        Due.due("who holds it", mother.piece(0, 4), 0);
    }

    private static void theFewer() {
        Due.due("3 more, 5 less", Due.coast("P0H0C0310").tilts(0, 0), 3);
        Due.due("5 more, 3 less", Due.coast("P0H0C0510").tilts(0, 0), 3);
        Due.due("1 less, round", Due.coast("P0H0C0710").tilts(0, 0), 1);
        Due.due("1 more, round", Due.coast("P7H0C0010").tilts(0, 0), 1);
        Due.due("a DEEP one, by the other side", Due.coast("P0H0C0220").tilts(0, 0), 1);
    }

    private static void noTilts() {
        for (int kind = 0; kind < 4; kind++) {
            PearlMother mother = Due.coast("P0H3C00" + kind + "0C20" + kind + "0");
            Due.due("to a BLIND one, KIND " + kind, mother.tilts(0, 0), NONE);
            Due.due("HER LOOK to a BLIND one, KIND " + kind, mother.tilts(1, 0), NONE);
        }
    }

    private static void fewestToFind() {
        PearlMother mother = Due.coast("P0H0H0C0410C0310C0600C1010C0011");
        Due.due("the nearest of three", mother.finds(0, 0), 1);
        Due.due("0: it is seen", mother.finds(0, 1), 0);
        mother.give(2, 1);
        Due.due("of two that are left", mother.finds(0, 0), 3);
        mother.give(1, 1);
        Due.due("of one", mother.finds(0, 0), 4);
        mother.give(4, 0);
        Due.due("of one that is given", mother.finds(0, 0), 0);
        Due.due("the first is nearest", Due.coast("P0H0C0110C0310").finds(0, 0), 1);
    }

    private static void findsNone() {
        PearlMother mother = Due.coast("P0H0H3H0C0010C1011");
        Due.due("a PART that is in no PIECE", mother.finds(0, 4), NONE);
        Due.due("a PART in another's PIECE", mother.finds(0, 1), NONE);
        Due.due("of a BLIND one", mother.finds(1, 1), NONE);
        Due.due("of who holds nothing", mother.finds(2, 0), NONE);
        mother.give(0, 2);
        Due.due("given away", mother.finds(0, 0), NONE);
    }

    private static void allTogether() {
        Due.due("five PARTS, 4 each", Due.coast("P0H0C0410C1410C2410C3410C4410").all(0), 20);
        Due.due("one PART twice: the nearer", Due.coast("P0H0C0410C0310").all(0), 3);
        Due.due("one PART six times", Due.coast("P0H0C0410C0310C0410C0310C0210C0410").all(0), 2);
        Due.due("all is seen", Due.coast("P0H0C0010C1000C2020").all(0), 0);
        Due.due("others' PIECES are not counted", Due.coast("P0H0H0C0310C1411").all(0), 3);
        Due.due("a GAMBLER's HER LOOK is seen, the other is not", Due.coast("P0H2C2410C1310").all(0), 3);
        Due.due("who holds nothing", Due.coast("P0H0H0C0310").all(1), 0);
        Due.due("there are no PIECES", Due.coast("P0H0").all(0), 0);
        PearlMother mother = Due.coast("P0H0C0210C1210");
        mother.tilt(0, true);
        Due.due("from where each is", mother.all(0), 3);
        mother.hour();
        Due.due("and by LIGHT", mother.all(0), 1);
    }

    private static void neverCan() {
        PearlMother mother = Due.coast("P0H3H3C0010");
        Due.due("a BLIND one", mother.all(0), NONE);
        Due.due("a BLIND one with nothing to see", mother.all(1), 0);
        mother.give(0, 1);
        Due.due("given away", mother.all(0), 0);
        Due.due("given", mother.all(1), NONE);
        Due.due("HER LOOK too", Due.coast("P0H3C2010").all(0), NONE);
        Due.due("two PARTS", Due.coast("P0H3C0010C1010").all(0), NONE);
        Due.due("five PARTS", Due.coast("P0H3C0010C1010C2010C3010C4010").all(0), NONE);
    }

    private static void howManyHours() {
        for (int light = 0; light < 8; light++) {
            for (int own = 0; own < 8; own++) {
                PearlMother mother = Due.coast("P" + light + "H0C4" + own + "10");
                Due.due("LIGHT " + light + ", own ANGLE " + own, mother.when(0, 4), (own + 8 - light) % 8);
            }
        }
        Due.due("the first of two", Due.coast("P0H0C0510C0310").when(0, 0), 3);
        Due.due("the first of two, told first", Due.coast("P0H0C0310C0510").when(0, 0), 3);
        Due.due("light goes one way", Due.coast("P0H0C0600").when(0, 0), 5);
        PearlMother mother = Due.coast("P0H0C0010");
        mother.tilt(0, true);
        Due.due("by TILT", mother.when(0, 0), 7);
        mother.hour();
        Due.due("an hour later", mother.when(0, 0), 6);
        Due.due("THE HOUR is left", mother.about(3), 1);
    }

    private static void whenNone() {
        PearlMother mother = Due.coast("P0H0H3H0C0010C1011");
        Due.due("a PART that is in no PIECE", mother.when(0, 4), NONE);
        Due.due("a PART in another's PIECE", mother.when(0, 1), NONE);
        Due.due("of a BLIND one", mother.when(1, 1), NONE);
        Due.due("of who holds nothing", mother.when(2, 0), NONE);
    }

    private static void mothers(String pieces, int want) {
        Due.due("mothers() of " + pieces, Due.coast("P0H0" + pieces).mothers(), want);
    }

    private static void fewestRows() {
        Due.due("of nobody", new PearlMother().mothers(), 0);
        mothers("", 0);
        mothers("C0000", 1);
        mothers("C0000C1100C2200C3000C4100", 1);
        // what is put where there is room first needs three
        mothers("C0000C1000C1200C0600", 2);
        mothers("C0000C1200C2400C3600", 2);
        mothers("C0000C1300C2600C3100C4400C0700", 3);
    }

    private static void noPartTwice() {
        for (int part = 0; part < 5; part++) {
            String piece = "C" + part + "000";
            for (int count = 1; count <= 6; count++) {
                mothers(piece.repeat(count), count);
            }
        }
        mothers("C0000C1000C0000", 2);
    }

    private static void noTwoFarApart() {
        mothers("C0000C1200", 1);
        mothers("C0000C1300", 2);
        mothers("C0000C1400", 2);
        mothers("C0000C1500", 2);
        mothers("C0000C1600", 1);
        mothers("C0700C1100", 1);
        mothers("C0700C1200", 2);
        // no two of a row, not only neighbours
        mothers("C0000C1200C2400", 2);
        mothers("C0000C1200C2400C3600C4100", 2);
    }

    private static void byTheirOwnAngles() {
        PearlMother mother = Due.coast("P5H0H3C0000C1320");
        Due.due("3 APART", mother.mothers(), 2);
        mother.tilt(1, false);
        mother.tilt(0, true);
        mother.hour();
        mother.give(0, 1);
        Due.due("TILT, LIGHT, HOLDERS count for nothing", mother.mothers(), 2);
        PearlMother near = Due.coast("P5H0C0000C1210");
        near.tilt(1, true);
        near.tilt(1, true);
        Due.due("2 APART", near.mothers(), 1);
    }

    private static void giving(String coast, int most, int way) {
        PearlMother mother = Due.coast(coast);
        Due.due("giving(false) of " + coast, mother.giving(false), most);
        Due.due("giving(true) of " + coast, mother.giving(true), way);
    }

    private static void givings(Sentences doc) {
        doc.says(TERMS, "GIVING: of all ways to give all PIECES to HOLDERS that by which HOLDERS together see most "
                + "PARTS now", () -> {
            giving("P0H3H0C0000", 1, 2);
            giving("P0H0H1C0200C0000", 2, 21);
            giving("P0H0H2C2400C0000", 2, 21);
            giving("P0H3H3H0H3C0000C1000C2000C3000C4000C0000", 5, 133333);
            PearlMother mother = Due.coast("P0H0H1C0210C0110");
            Due.due("now", mother.giving(true), 12);
            mother.hour();
            Due.due("an hour later", mother.giving(true), 21);
        });
        doc.says(TERMS, "(each of each HOLDER counted): how many;", () -> {
            giving("P0H0H0C0000C0000", 2, 12);
            giving("P0H0H0H0H0" + "C0000".repeat(6), 4, 111234);
            giving("P0H0H0H0H0C0000C0000C0000C1000C1000C1000", 6, 123123);
            giving("P0H0C0000C0000", 1, 11);
        });
        doc.says(TERMS, "the way (figures by PIECES, the first PIECE's the highest, each HOLDER and 1;", () -> {
            giving("P0H3H3H3H0C0000", 1, 4);
            giving("P0H3H3H3H0C0000C4400C1000", 2, 414);
            giving("P0H3H3H3H0C0000C1000C2000C3000C4000C4400", 5, 444441);
        });
        doc.says(TERMS, "of like ones the least;", () -> {
            giving("P0H3H3H3H3" + "C0000".repeat(6), 0, 111111);
            giving("P0H0H0C0001C1001", 2, 11);
            giving("P4H0H0H0H0C0003C0002", 0, 11);
            giving("P0H0H0H0H0C0003C0002", 2, 12);
            giving("P0H0H0C0001C0000C0400", 2, 121);
        });
        doc.says(TERMS, "0: there are no PIECES, or no HOLDERS).", () -> {
            giving("P0", 0, 0);
            giving("P0H0", 0, 0);
            giving("P0H0H1H2H3", 0, 0);
            Due.due("giving(false) of a new object", new PearlMother().giving(false), 0);
            Due.due("giving(true) of a new object", new PearlMother().giving(true), 0);
        });
    }

    private static void judge(PearlMother mother, int n, long row, int want) {
        Due.due("judge(" + n + ", " + row + ")", mother.judge(n, row), want);
    }

    /** Two PLAIN ones, and each ANGLE at 1 from where it shows: DULL, its own 1 and 7. */
    private static PearlMother two() {
        return Due.coast("P0H0H0C0110C1711");
    }

    private static void judged(Sentences doc) {
        doc.says(TERMS, "JUDGED: n doings (1 .. 4), told as three figures each, the first doing's the highest of row",
                SeenEdges::figures);
        doc.says(TERMS, "(1, a PIECE, 0 or 1: TILTED less, more;", SeenEdges::judgedTilts);
        doc.says(TERMS, "2, a PIECE, a HOLDER: GIVEN;", SeenEdges::judgedGivings);
        doc.says(TERMS, "3, 0, 0: AN HOUR;", SeenEdges::judgedHours);
        doc.says(TERMS, "4, a HOLDER, a PART: it sees that):", SeenEdges::judgedSights);
        doc.says(TERMS, "the place (from 0) of the first that can not be (or is not so), what is ahead of it being done;",
                SeenEdges::firstThatCanNotBe);
        doc.says(TERMS, "NONE: none.", () -> {
            judge(two(), 1, 300, NONE);
            judge(two(), 4, 300300300300L, NONE);
            judge(two(), 4, 101201410300L, NONE);
            judge(new PearlMother(), 4, 300300300300L, NONE);
        });
    }

    private static void figures() {
        // 1 .. 4 of them; figures that are not told are 0 and come first
        for (int n = 1; n <= 4; n++) {
            long row = 0;
            for (int place = 0; place < n; place++) {
                row = 1000 * row + 300;
            }
            judge(two(), n, row, NONE);
            judge(two(), n, row + 1, n - 1);
            judge(two(), n, 300, n == 1 ? NONE : 0);
            judge(two(), n, 0, 0);
        }
        judge(two(), 3, 900300300, 0);
        judge(two(), 3, 300900300, 1);
        judge(two(), 3, 300300900, 2);
        // there is no doing 0, nor one from 5 on
        for (int what : new int[] {0, 5, 6, 7, 8, 9}) {
            judge(two(), 1, 100 * what, 0);
            judge(two(), 1, 100 * what + 1, 0);
        }
    }

    private static void judgedTilts() {
        judge(two(), 2, 101400, NONE);
        judge(two(), 2, 100400, 1);
        judge(two(), 2, 110411, NONE);
        judge(two(), 2, 111411, 1);
        for (int figure = 2; figure <= 9; figure++) {
            judge(two(), 1, 100 + figure, 0);
            judge(two(), 1, 100 + 10 * figure, 0);
        }
        // round by 8, both ways
        judge(Due.coast("P0H0C0610"), 3, 100100400, NONE);
        judge(Due.coast("P7H0C0010"), 2, 101400, NONE);
        judge(new PearlMother(), 1, 100, 0);
        judge(Whole.full(), 1, 151, NONE);
        judge(Whole.full(), 1, 161, 0);
    }

    private static void judgedGivings() {
        judge(two(), 1, 201, NONE);
        judge(two(), 1, 210, NONE);
        // who holds it already can not be given it
        judge(two(), 1, 200, 0);
        judge(two(), 1, 211, 0);
        judge(two(), 1, 202, 0);
        judge(two(), 1, 220, 0);
        judge(two(), 2, 201200, NONE);
        judge(two(), 2, 201201, 1);
        judge(Whole.full(), 1, 250, NONE);
        judge(Whole.full(), 1, 253, 0);
        judge(Whole.full(), 1, 254, 0);
        judge(Whole.full(), 1, 260, 0);
        judge(new PearlMother(), 1, 200, 0);
    }

    private static void judgedHours() {
        judge(two(), 1, 300, NONE);
        for (int figure = 1; figure <= 9; figure++) {
            judge(two(), 1, 300 + figure, 0);
            judge(two(), 1, 300 + 10 * figure, 0);
        }
        judge(two(), 2, 300400, NONE);
        judge(two(), 3, 300300400, 2);
        judge(Due.coast("P7H0C0010"), 2, 300400, NONE);
    }

    private static void judgedSights() {
        PearlMother mother = Due.coast("P0H0H3H1C4000C4001C0202C1300");
        judge(mother, 1, 404, NONE);
        judge(mother, 1, 420, NONE);
        judge(mother, 1, 414, 0);
        judge(mother, 1, 401, 0);
        judge(mother, 1, 424, 0);
        judge(mother, 1, 405, 0);
        judge(mother, 1, 409, 0);
        judge(mother, 1, 430, 0);
        judge(mother, 1, 494, 0);
        judge(mother, 2, 404404, NONE);
        judge(mother, 2, 404414, 1);
        judge(new PearlMother(), 1, 400, 0);
    }

    private static void firstThatCanNotBe() {
        for (int place = 0; place < 4; place++) {
            long row = 0;
            for (int one = 0; one < 4; one++) {
                row = 1000 * row + (one < place ? 300 : 999);
            }
            judge(two(), 4, row, place);
        }
        // what is ahead of it is done: seen only behind a TILT and a giving
        judge(two(), 1, 410, 0);
        judge(two(), 3, 101201410, NONE);
        judge(two(), 3, 101410201, 1);
        judge(two(), 4, 101201410400L, 3);
        // and begins each time from how things are
        PearlMother mother = two();
        judge(mother, 3, 300300300, NONE);
        judge(mother, 2, 300400, NONE);
        mother.hour();
        judge(mother, 1, 400, NONE);
        judge(mother, 2, 300400, 1);
    }

    private static void judgeBad() {
        for (int n : new int[] {Integer.MIN_VALUE, -1, 0, 5, 256, Integer.MAX_VALUE}) {
            for (long row : new long[] {0, 300, -1, Long.MAX_VALUE}) {
                Whole.leaves("judge(" + n + ", " + row + ")", Whole::busy, one -> one.judge(n, row), PearlMother.BAD);
            }
        }
        for (int n = 1; n <= 4; n++) {
            int of = n;
            for (long row : new long[] {-1, -300, Long.MIN_VALUE, Long.MAX_VALUE}) {
                Whole.leaves("judge(" + n + ", " + row + ")", Whole::busy, one -> one.judge(of, row), PearlMother.BAD);
            }
        }
    }

    private static void figuresAtMost() {
        long least = 1;
        for (int n = 1; n <= 4; n++) {
            least *= 1000;
            judge(two(), n, 0, 0);
            judge(two(), n, least - 1, 0);
            judge(two(), n, least, PearlMother.BAD);
            judge(two(), n, least + 300, PearlMother.BAD);
            // beyond an int, and by what is left of it alone it would be a row
            judge(two(), n, (1L << 32) * 1000000 + 300, PearlMother.BAD);
        }
        judge(two(), 4, 300300300300L, NONE);
        judge(two(), 3, 300300300300L, PearlMother.BAD);
        judge(two(), 2, 2147483648L, PearlMother.BAD);
        judge(two(), 4, 2147483648L, 0);
    }

    private static void share(PearlMother mother, int piece, int above, int below) {
        Due.due("share(" + piece + ", true)", mother.share(piece, true), above);
        Due.due("share(" + piece + ", false)", mother.share(piece, false), below);
    }

    private static void shares(Sentences doc) {
        doc.says(TERMS, "SHARE of a PIECE: if PIECES come one by one, in each order as likely", () -> {
            for (int count = 1; count <= 6; count++) {
                PearlMother mother = Due.coast("P0H0" + "C0000".repeat(count));
                for (int piece = 0; piece < count; piece++) {
                    share(mother, piece, 1, count);
                }
            }
        });
        doc.says(TERMS, "(others are not there):", () -> {
            PearlMother mother = Due.coast("P0H0C0000C1000C2000C3000C4000C4000");
            for (int piece = 0; piece < 4; piece++) {
                share(mother, piece, 1, 1);
            }
            share(mother, 4, 1, 2);
            share(mother, 5, 1, 2);
        });
        doc.says(TERMS, "by how many in the mean PARTS that HOLDERS see together now", () -> {
            PearlMother mother = Due.coast("P0H0H3C0000C0001C0400");
            share(mother, 0, 1, 1);
            share(mother, 1, 0, 1);
            share(mother, 2, 0, 1);
            mother.give(1, 0);
            share(mother, 0, 1, 2);
            share(mother, 1, 1, 2);
            for (int count = 0; count < 4; count++) {
                mother.hour();
            }
            share(mother, 0, 0, 1);
            share(mother, 2, 1, 1);
            mother.tilt(2, true);
            mother.tilt(2, true);
            share(mother, 2, 0, 1);
        });
        doc.says(TERMS, "(each PART counted once)", () -> {
            PearlMother mother = Due.coast("P0H0H0H1C3000C3001C3202");
            for (int piece = 0; piece < 3; piece++) {
                share(mother, piece, 1, 3);
            }
        });
        doc.says(TERMS, "are more when it has come than they were: a FRACTION.", () -> {
            // those of one PART together come to 1, those that none sees to 0 above 1
            PearlMother mother = Due.coast("P0H0C0000C0100C0200C1000C1700C1000");
            int[] below = {2, 2, 1, 3, 3, 3};
            for (int piece = 0; piece < 6; piece++) {
                share(mother, piece, piece == 2 ? 0 : 1, below[piece]);
            }
        });
    }

    private static void tiltsUnknown() {
        for (int none : WRONG) {
            Whole.leaves("tilts(" + none + ", 0)", Whole::busy, one -> one.tilts(none, 0), PearlMother.UNKNOWN);
            Whole.leaves("tilts(0, " + none + ")", Whole::busy, one -> one.tilts(0, none), PearlMother.UNKNOWN);
        }
        Due.due("tilts(5, 3)", Whole.full().tilts(5, 3), NONE);
        Due.due("tilts(6, 3)", Whole.full().tilts(6, 3), PearlMother.UNKNOWN);
        Due.due("tilts(5, 4)", Whole.full().tilts(5, 4), PearlMother.UNKNOWN);
        Due.due("of a new object", new PearlMother().tilts(0, 0), PearlMother.UNKNOWN);
    }

    private static void findsUnknown() {
        for (int none : WRONG) {
            for (int part : new int[] {0, 4, 5, -1}) {
                Whole.leaves("finds(" + none + ", " + part + ")", Whole::busy, one -> one.finds(none, part),
                        PearlMother.UNKNOWN);
            }
        }
        Due.due("of a new object", new PearlMother().finds(0, 0), PearlMother.UNKNOWN);
    }

    private static void findsBad() {
        for (int part : new int[] {Integer.MIN_VALUE, -1, 5, 8, 256, Integer.MAX_VALUE}) {
            Whole.leaves("finds(1, " + part + ")", Whole::busy, one -> one.finds(1, part), PearlMother.BAD);
        }
    }

    private static void allUnknown() {
        for (int none : WRONG) {
            Whole.leaves("all(" + none + ")", Whole::busy, one -> one.all(none), PearlMother.UNKNOWN);
        }
        Due.due("all(4)", Whole.full().all(4), PearlMother.UNKNOWN);
        Due.due("of a new object", new PearlMother().all(0), PearlMother.UNKNOWN);
    }

    private static void whenUnknown() {
        for (int none : WRONG) {
            for (int part : new int[] {0, 4, 5, -1}) {
                Whole.leaves("when(" + none + ", " + part + ")", Whole::busy, one -> one.when(none, part),
                        PearlMother.UNKNOWN);
            }
        }
        Due.due("of a new object", new PearlMother().when(0, 0), PearlMother.UNKNOWN);
    }

    private static void whenBad() {
        for (int part : new int[] {Integer.MIN_VALUE, -1, 5, 8, 256, Integer.MAX_VALUE}) {
            Whole.leaves("when(1, " + part + ")", Whole::busy, one -> one.when(1, part), PearlMother.BAD);
        }
    }

    private static void shareUnknown() {
        for (int none : WRONG) {
            Whole.leaves("share(" + none + ", true)", Whole::busy, one -> one.share(none, true), PearlMother.UNKNOWN);
            Whole.leaves("share(" + none + ", false)", Whole::busy, one -> one.share(none, false), PearlMother.UNKNOWN);
        }
        Due.due("share(6, true)", Whole.full().share(6, true), PearlMother.UNKNOWN);
        Due.due("of a new object", new PearlMother().share(0, true), PearlMother.UNKNOWN);
    }
}
