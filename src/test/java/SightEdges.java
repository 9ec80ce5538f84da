/** Sentences of the terms on ANGLES, PARTS and what shows, and promises 6 to 9. */
final class SightEdges {
    private static final int TERMS = Sentences.TERMS;
    /** By two ANGLES, by how many steps they are APART, counted on a ring drawn on paper. */
    private static final String[] APART = {"01234321", "10123432", "21012343", "32101234", "43210123", "34321012",
        "23432101", "12343210"};

    private SightEdges() {
    }

    static void run(Sentences doc) {
        doc.says(TERMS, "7, round (0 is beside 7): two are APART by the fewer steps round (0 .. 4).",
                SightEdges::round);
        doc.says(TERMS, "PARTS: 0 SLEEVE, 1 HAND, 2 HER LOOK (her face), 3 BASKET, 4 KITCHEN.", SightEdges::parts);
        doc.says(TERMS, "A PIECE is in the LIGHT at the ANGLE that is its TILT and LIGHT together, by 8.",
                SightEdges::inTheLight);
        doc.says(TERMS, "A PIECE shows by how far that is APART from its own ANGLE: PLAIN: 1 or less;",
                () -> shown(0, 0, "11000"));
        doc.says(TERMS, "DULL: 0;", () -> shown(1, 0, "10000"));
        doc.says(TERMS, "WIDE: 2 or less;", () -> shown(3, 0, "11100"));
        doc.says(TERMS, "DEEP: as PLAIN, and also by the ANGLE over against its own (4 more, by 8).",
                () -> shown(2, 0, "11011"));
        doc.says(TERMS, "To a CHILD it shows by 1 more", SightEdges::toChildren);
        doc.says(TERMS, "(DEEP: either way);", () -> shown(2, 1, "11111"));
        doc.says(TERMS, "to a GAMBLER, if HER LOOK is in it, always;", SightEdges::toGamblers);
        doc.says(TERMS, "to a BLIND one never.", SightEdges::toTheBlind);
        doc.says(TERMS, "SEES: a HOLDER sees PARTS of PIECES that it holds and that show to it.", SightEdges::sees);

        abouts(doc);
        holders(doc);
        pieces(doc);
        doc.says(9, "1 if a PIECE shows to a HOLDER, if it held it, at an ANGLE in the LIGHT;", SightEdges::shows);
        doc.says(9, "0.", () -> Due.due("shows", Due.coast("P3H0C0300").shows(0, 0, 5), 0));
        doc.says(9, "UNKNOWN: piece, holder;", SightEdges::showsUnknown);
        doc.says(9, "BAD: angle.", SightEdges::showsBad);
    }

    private static void round() {
        for (int own = 0; own < 8; own++) {
            // a step more of reach each: DULL, PLAIN, WIDE to a PLAIN one, WIDE to a CHILD
            PearlMother mother = Due.coast("P0H0H1C0" + own + "10C0" + own + "00C0" + own + "30");
            for (int angle = 0; angle < 8; angle++) {
                int apart = 4 - mother.shows(0, 0, angle) - mother.shows(1, 0, angle) - mother.shows(2, 0, angle)
                        - mother.shows(2, 1, angle);
                Due.due(own + " and " + angle + " are APART by", apart, APART[own].charAt(angle) - '0');
                int rows = Due.coast("P0H0C0" + own + "00C1" + angle + "00").mothers();
                Due.due("mothers() at " + own + " and " + angle, rows, APART[own].charAt(angle) > '2' ? 2 : 1);
            }
        }
    }

    private static void parts() {
        for (int part = 0; part <= 4; part++) {
            PearlMother mother = Due.coast("P0H0H2C" + part + "000");
            Due.due("bits of PART " + part, mother.holder(0, 2), 1 << part);
            Due.due("bits of PART " + part + " together", mother.about(5), 1 << part);
            Due.due("HER LOOK is PART 2 alone", mother.about(4), part == 2 ? 1 : 0);
            Due.due("to a GAMBLER", mother.shows(0, 1, 4), part == 2 ? 1 : 0);
            Due.due("finds of PART " + part, mother.finds(0, part), 0);
        }
        PearlMother all = Due.coast("P0H0C0000C1000C2000C3000C4000");
        Due.due("all five", all.about(5), 31);
        Due.due("there is no PART 5", all.finds(0, 5), PearlMother.BAD);
        Due.due("there is no PART -1", all.finds(0, -1), PearlMother.BAD);
    }

    private static void inTheLight() {
        for (int light = 0; light < 8; light++) {
            PearlMother mother = Due.coast("P" + light + "H0C0010C0310");
            for (int tilt = 0; tilt <= 8; tilt++) {
                int at = (light + tilt) % 8;
                Due.due("LIGHT " + light + ", TILT " + tilt, mother.piece(0, 5), at);
                Due.due("it shows at its own ANGLE", mother.piece(0, 6), at == 0 ? 1 : 0);
                Due.due("the other one is left", mother.piece(1, 5), light);
                mother.tilt(0, true);
            }
        }
        PearlMother later = Due.coast("P7H0C0610");
        later.tilt(0, false);
        Due.due("TILT 7, LIGHT 7", later.piece(0, 5), 6);
        later.hour();
        Due.due("TILT 7, LIGHT 0", later.piece(0, 5), 7);
        later.tilt(0, true);
        Due.due("TILT 0, LIGHT 0", later.piece(0, 5), 0);
    }

    /** By how far (0 .. 4) a KIND of PIECE shows to a KIND of HOLDER, at all ANGLES, by LIGHT and asked. */
    private static void shown(int kind, int holderKind, String by) {
        for (int own = 0; own < 8; own++) {
            for (int light = 0; light < 8; light++) {
                PearlMother mother = Due.coast("P" + light + "H" + holderKind + "C0" + own + kind + "0");
                int want = by.charAt(APART[own].charAt(light) - '0') - '0';
                Due.due("KIND " + kind + " of " + own + " at " + light, mother.piece(0, 6), want);
                Due.due("shows(0, 0, " + light + ")", mother.shows(0, 0, light), want);
                Due.due("what is seen", mother.holder(0, 2), want);
            }
        }
    }

    private static void toChildren() {
        shown(0, 1, "11100");
        shown(1, 1, "11000");
        shown(3, 1, "11110");
    }

    private static void toGamblers() {
        String[] kinds = {"11000", "10000", "11011", "11100"};
        for (int kind = 0; kind < 4; kind++) {
            shown(kind, 2, kinds[kind]);
            for (int light = 0; light < 8; light++) {
                PearlMother mother = Due.coast("P" + light + "H2H0H3C23" + kind + "0");
                Due.due("HER LOOK at " + light, mother.piece(0, 6), 1);
                Due.due("who sees HER LOOK", mother.about(4), 1);
                Due.due("not so to a PLAIN one", mother.shows(0, 1, (light + 1) % 8),
                        kinds[kind].charAt(APART[3].charAt((light + 1) % 8) - '0') - '0');
                Due.due("not so to a BLIND one", mother.shows(0, 2, light), 0);
            }
        }
    }

    private static void toTheBlind() {
        for (int kind = 0; kind < 4; kind++) {
            shown(kind, 3, "00000");
            PearlMother mother = Due.coast("P3H3C23" + kind + "0");
            Due.due("HER LOOK to a BLIND one", mother.piece(0, 6), 0);
            Due.due("who sees HER LOOK", mother.about(4), 0);
        }
    }

    private static void sees() {
        PearlMother mother = Due.coast("P0H0H0C0000C1000C0000C3400C4001");
        Due.due("what shows, each PART once", mother.holder(0, 2), 3);
        Due.due("only what it holds", mother.holder(1, 2), 16);
        mother.give(4, 0);
        Due.due("it holds more", mother.holder(0, 2), 19);
        Due.due("who holds nothing sees nothing", mother.holder(1, 2), 0);
        for (int count = 0; count < 4; count++) {
            mother.tilt(3, false);
        }
        Due.due("it shows by a TILT", mother.holder(0, 2), 27);
    }

    private static void abouts(Sentences doc) {
        doc.says(6, "HOLDERS (what = 0),", () -> {
            for (int count = 0; count <= 4; count++) {
                Due.due("about(0)", Due.coast("P0" + "H0".repeat(count)).about(0), count);
            }
        });
        doc.says(6, "PIECES (1),", () -> {
            for (int count = 0; count <= 6; count++) {
                Due.due("about(1)", Due.coast("P0H0" + "C0000".repeat(count)).about(1), count);
            }
        });
        doc.says(6, "LIGHT (2),", () -> {
            PearlMother mother = Due.coast("P6");
            int[] lights = {6, 7, 0, 1};
            for (int light : lights) {
                Due.due("about(2)", mother.about(2), light);
                mother.hour();
            }
        });
        doc.says(6, "THE HOUR (3),", () -> {
            PearlMother mother = Due.coast("P6");
            for (int hour = 0; hour < 20; hour++) {
                Due.due("about(3)", mother.about(3), hour);
                mother.hour();
            }
        });
        doc.says(6, "who sees HER LOOK (4: bits),", SightEdges::whoSeesHerLook);
        doc.says(6, "PARTS that HOLDERS see together (5: bits),", SightEdges::seenTogether);
        doc.says(6, "ACTS (6),", () -> {
            PearlMother mother = Due.coast("P0H0H0C0000");
            for (int count = 0; count <= 16; count++) {
                Due.due("about(6)", mother.about(6), Math.min(count, 14));
                mother.hour();
            }
            mother.undo();
            Due.due("about(6), one undone", mother.about(6), 13);
        });
        doc.says(6, "TURNED (7),", () -> {
            PearlMother mother = new PearlMother();
            for (int count = 0; count <= 7; count++) {
                Due.due("about(7)", mother.about(7), Math.min(count, 6));
                mother.turn(0, 0);
            }
        });
        doc.says(6, "bytes of THE TEXT (8).", () -> {
            PearlMother mother = new PearlMother();
            for (int count = 0; count <= 49; count++) {
                Due.due("about(8)", mother.about(8), Math.min(count, 48));
                mother.write(0);
            }
        });
        doc.says(6, "BAD.", () -> {
            for (int what : new int[] {-1, 9, 256, Integer.MIN_VALUE, Integer.MAX_VALUE}) {
                Due.due("about(" + what + ")", Whole.full().about(what), PearlMother.BAD);
                Due.due("about(" + what + ") of a new object", new PearlMother().about(what), PearlMother.BAD);
            }
        });
    }

    private static void whoSeesHerLook() {
        Due.due("nobody is there", new PearlMother().about(4), 0);
        Due.due("nobody", Due.coast("P4H0H3C2000C2401").about(4), 0);
        Due.due("all four", Due.coast("P0H0H1H2H0C2000C2201C2402C2003").about(4), 15);
        Due.due("the last one", Due.coast("P0H0H0H0H0C2003").about(4), 8);
        Due.due("twice is once", Due.coast("P0H0H0C2001C2001").about(4), 2);
        Due.due("another PART is not HER LOOK", Due.coast("P0H0H0C1001C3000").about(4), 0);
    }

    private static void seenTogether() {
        Due.due("nobody is there", new PearlMother().about(5), 0);
        Due.due("all, by one each", Due.coast("P0H0H1H2H0C0000C1201C2402C3003C4003").about(5), 31);
        Due.due("one PART by two", Due.coast("P0H0H0C4000C4001").about(5), 16);
        Due.due("what a BLIND one holds", Due.coast("P0H3H0C0000C1001").about(5), 2);
        PearlMother mother = Due.coast("P7H0H0C0710C1011C2110");
        int[] bits = {1, 2, 4, 0, 0, 0, 0, 0, 1};
        for (int hours = 0; hours < bits.length; hours++) {
            Due.due("about(5), by the hour", mother.about(5), bits[hours]);
            Due.due("about(4), by the hour", mother.about(4), hours == 2 ? 1 : 0);
            mother.hour();
        }
    }

    private static void holders(Sentences doc) {
        doc.says(7, "Of a HOLDER its KIND (what = 0),", () -> {
            PearlMother mother = Due.coast("P0H3H0H2H1");
            int[] kinds = {3, 0, 2, 1};
            for (int holder = 0; holder < 4; holder++) {
                Due.due("holder(" + holder + ", 0)", mother.holder(holder, 0), kinds[holder]);
            }
        });
        doc.says(7, "PIECES that it holds (1: bits),", () -> {
            PearlMother mother = Due.coast("P0H3H0H2H1C0000C0001C0003C0003C0000C0000");
            int[] held = {49, 2, 0, 12};
            for (int holder = 0; holder < 4; holder++) {
                Due.due("holder(" + holder + ", 1)", mother.holder(holder, 1), held[holder]);
            }
            Due.due("all six", Due.coast("P0H3" + "C0000".repeat(6)).holder(0, 1), 63);
        });
        doc.says(7, "PARTS that it sees (2: bits).", () -> {
            PearlMother mother = Due.coast("P0H3H0H2H1C0000C0001C2402C4203C1201C0603");
            int[] seen = {0, 1, 4, 17};
            for (int holder = 0; holder < 4; holder++) {
                Due.due("holder(" + holder + ", 2)", mother.holder(holder, 2), seen[holder]);
            }
        });
        doc.says(7, "UNKNOWN;", () -> {
            for (int holder : new int[] {-1, 2, 4, Integer.MIN_VALUE, Integer.MAX_VALUE}) {
                for (int what = -1; what <= 3; what++) {
                    Due.due("holder(" + holder + ", " + what + ")", Whole.busy().holder(holder, what),
                            PearlMother.UNKNOWN);
                }
            }
            Due.due("holder(0, 0) of a new object", new PearlMother().holder(0, 0), PearlMother.UNKNOWN);
        });
        doc.says(7, "BAD.", () -> {
            for (int what : new int[] {-1, 3, 256, Integer.MIN_VALUE, Integer.MAX_VALUE}) {
                for (int holder = 0; holder < 2; holder++) {
                    Due.due("holder(" + holder + ", " + what + ")", Whole.busy().holder(holder, what), PearlMother.BAD);
                }
            }
        });
    }

    private static void pieces(Sentences doc) {
        // behind these: PIECE 1 at TILT 7, given to HOLDER 0, LIGHT 0
        String coast = "P7H0H1C4730C0611";
        String[] words = {"Of a PIECE its PART (what = 0),", "ANGLE (1),", "KIND (2),", "TILT (3),",
            "who holds it (4),", "the ANGLE at which it is in the LIGHT (5),", "1 if it shows to who holds it (6)."};
        int[] first = {4, 7, 3, 0, 0, 0, 1};
        int[] second = {0, 6, 1, 7, 0, 7, 0};
        for (int what = 0; what < words.length; what++) {
            int asked = what;
            doc.says(8, words[what], () -> {
                PearlMother mother = Due.coast(coast);
                mother.tilt(1, false);
                Due.due("to the CHILD that held it it showed", mother.piece(1, 6), 1);
                mother.give(1, 0);
                mother.hour();
                Due.due("piece(0, " + asked + ")", mother.piece(0, asked), first[asked]);
                Due.due("piece(1, " + asked + ")", mother.piece(1, asked), second[asked]);
                Due.due("piece(2, " + asked + ")", mother.piece(2, asked), PearlMother.UNKNOWN);
            });
        }
        doc.says(8, "UNKNOWN;", () -> {
            for (int piece : new int[] {-1, 2, 6, Integer.MIN_VALUE, Integer.MAX_VALUE}) {
                for (int what = -1; what <= 7; what++) {
                    Due.due("piece(" + piece + ", " + what + ")", Whole.busy().piece(piece, what), PearlMother.UNKNOWN);
                }
            }
            Due.due("piece(0, 0) of a new object", new PearlMother().piece(0, 0), PearlMother.UNKNOWN);
        });
        doc.says(8, "BAD.", () -> {
            for (int what : new int[] {-1, 7, 256, Integer.MIN_VALUE, Integer.MAX_VALUE}) {
                Due.due("piece(1, " + what + ")", Whole.busy().piece(1, what), PearlMother.BAD);
            }
        });
    }

    private static void shows() {
        PearlMother mother = Due.coast("P3H0H1C0710");
        mother.tilt(0, true);
        for (int angle = 0; angle < 8; angle++) {
            Due.due("shows(0, 0, " + angle + ")", mother.shows(0, 0, angle), angle == 7 ? 1 : 0);
            Due.due("shows(0, 1, " + angle + "), which holds it not", mother.shows(0, 1, angle),
                    angle == 6 || angle == 7 || angle == 0 ? 1 : 0);
        }
    }

    private static void showsUnknown() {
        for (int none : new int[] {-1, 2, Integer.MIN_VALUE, Integer.MAX_VALUE}) {
            for (int angle : new int[] {0, 7, 8, -1}) {
                PearlMother mother = Whole.busy();
                Due.due("shows(" + none + ", 0, " + angle + ")", mother.shows(none, 0, angle), PearlMother.UNKNOWN);
                Due.due("shows(1, " + none + ", " + angle + ")", mother.shows(1, none, angle), PearlMother.UNKNOWN);
                Due.due("shows(" + none + ", " + none + ", ..)", mother.shows(none, none, angle), PearlMother.UNKNOWN);
            }
        }
        Due.due("of a new object", new PearlMother().shows(0, 0, 0), PearlMother.UNKNOWN);
        Due.due("a HOLDER, no PIECES", Due.coast("P0H0").shows(0, 0, 0), PearlMother.UNKNOWN);
    }

    private static void showsBad() {
        for (int angle : new int[] {-1, 8, 256, Integer.MIN_VALUE, Integer.MAX_VALUE}) {
            Due.due("shows(1, 1, " + angle + ")", Whole.busy().shows(1, 1, angle), PearlMother.BAD);
        }
    }
}
