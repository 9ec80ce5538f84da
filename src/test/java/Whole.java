import java.util.Arrays;
import java.util.function.Consumer;
import java.util.function.Supplier;
import java.util.function.ToLongFunction;

/**
 * All that can be found out of an object, by using it up: what is undone by ACTS, gone on from by
 * SLOTS, told by THE TEXT. Two objects made alike are compared, a call done on one of them.
 */
final class Whole {
    static final int COAST = 0, LIE = 1, TURNED = 2, SEED = 3, ACTS = 4, SLOTS = 5, TEXT = 6;
    private static final String[] NAMES = {"THE COAST", "TILTS, who holds what, LIGHT, THE HOUR", "TURNED",
        "THE SEED", "ACTS", "SLOTS", "THE TEXT"};

    private Whole() {
    }

    private static String coast(PearlMother mother) {
        StringBuilder told = new StringBuilder();
        told.append(mother.about(0)).append(' ').append(mother.about(1)).append(':');
        for (int holder = 0; holder < 4; holder++) {
            told.append(' ').append(mother.holder(holder, 0));
        }
        for (int piece = 0; piece < 6; piece++) {
            for (int what = 0; what < 3; what++) {
                told.append(what == 0 ? ", " : " ").append(mother.piece(piece, what));
            }
        }
        return told.toString();
    }

    private static String lie(PearlMother mother) {
        StringBuilder told = new StringBuilder();
        told.append(mother.about(2)).append(' ').append(mother.about(3));
        for (int piece = 0; piece < 6; piece++) {
            told.append(' ').append(mother.piece(piece, 3)).append('/').append(mother.piece(piece, 4));
        }
        return told.toString();
    }

    private static String turned(PearlMother mother) {
        return mother.about(7) + " " + mother.may(0) + " " + mother.may(1) + " " + mother.next();
    }

    private static String seed(PearlMother mother) {
        long seed = mother.seed(0);
        mother.seed(seed);
        return Long.toString(seed);
    }

    private static String acts(PearlMother mother) {
        StringBuilder told = new StringBuilder().append(mother.about(6));
        for (int count = 0; count < 15; count++) {
            int left = mother.undo();
            told.append(", ").append(left);
            if (left == PearlMother.LATE) {
                break;
            }
            told.append(" left: ").append(lie(mother));
        }
        return told.toString();
    }

    private static String slots(PearlMother mother) {
        StringBuilder told = new StringBuilder();
        for (int slot = 0; slot < 2; slot++) {
            int hour = mother.again(slot);
            told.append(hour).append(": ").append(hour == PearlMother.LATE ? "" : lie(mother)).append("; ");
        }
        return told.toString();
    }

    /** A text that is only not at its end is brought there by '0's. */
    private static String text(PearlMother mother) {
        StringBuilder told = new StringBuilder().append(mother.about(8)).append(' ').append(mother.fault());
        for (int count = 0; count < 5; count++) {
            int coast = mother.coast();
            told.append(' ').append(coast);
            if (coast != PearlMother.LATE) {
                return told.append(coast(mother)).append(lie(mother)).toString();
            }
            told.append(' ').append(mother.write('0')).append(' ').append(mother.fault());
        }
        return told.toString();
    }

    static String[] of(PearlMother mother) {
        return new String[] {coast(mother), lie(mother), turned(mother), seed(mother), acts(mother), slots(mother),
            text(mother)};
    }

    /** That a call changes just what is named here, and nothing else. */
    static void changes(String call, Supplier<PearlMother> made, Consumer<PearlMother> done, int... what) {
        PearlMother one = made.get();
        done.accept(one);
        String[] then = of(one);
        String[] before = of(made.get());
        for (int aspect = 0; aspect < NAMES.length; aspect++) {
            int wanted = aspect;
            if (Arrays.stream(what).anyMatch(named -> named == wanted)) {
                Due.holds(call + " changes " + NAMES[aspect], !then[aspect].equals(before[aspect]));
            } else {
                Due.same(NAMES[aspect] + " behind " + call, then[aspect], before[aspect]);
            }
        }
    }

    /** That a call answers what is due and changes nothing. */
    static void leaves(String call, Supplier<PearlMother> made, ToLongFunction<PearlMother> asked, long want) {
        changes(call, made, mother -> Due.due(call, asked.applyAsLong(mother), want));
    }

    /** Some of everything: two HOLDERS, two PIECES, ACTS, a SLOT, TURNED, a text that is not at its end. */
    static PearlMother busy() {
        PearlMother mother = Due.coast("P3H0H1C2300C0611");
        mother.tilt(0, true);
        mother.give(1, 0);
        mother.hour();
        mother.keep(0);
        mother.tilt(1, false);
        mother.hour();
        mother.turn(3, 2);
        mother.turn(5, 5);
        mother.seed(77);
        mother.write('H');
        return mother;
    }

    /** As much of everything as there can be. */
    static PearlMother full() {
        PearlMother mother = Due.coast("P3H0H1H2H3C2300C0610C3422C4131C2512C1403");
        for (int count = 0; count < 8; count++) {
            mother.write('X');
        }
        mother.keep(1);
        for (int count = 0; count < 11; count++) {
            mother.hour();
        }
        mother.tilt(5, false);
        mother.give(0, 3);
        mother.tilt(3, true);
        mother.keep(0);
        mother.give(4, 1);
        mother.hour();
        for (int angle = 0; angle < 6; angle++) {
            mother.turn(angle, 5);
        }
        mother.seed(-1);
        return mother;
    }
}
