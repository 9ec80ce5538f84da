/**
 * Mother-of-pearl on one coast: pieces, who holds them and a light that goes round by hours,
 * told as a text; what shows to whom, and what would.
 *
 * <p>All rows are made with the object and used again, so that no call makes anything new.
 */
public final class PearlMother {
    public static final int UNKNOWN = -1, BAD = -2, LATE = -3, FULL = -4, NONE = -9;

    private static final int ANGLES = 8;
    private static final int OVER_AGAINST = 4;
    private static final int PARTS = 5;
    private static final int HER_LOOK = 2;
    private static final int NOTHING = 5;
    private static final int ANSWERS = 6;
    private static final int KINDS = 4;

    private static final int DULL = 1;
    private static final int DEEP = 2;
    private static final int WIDE = 3;

    private static final int PLAIN_HOLDER = 0;
    private static final int CHILD = 1;
    private static final int GAMBLER = 2;
    private static final int BLIND = 3;

    private static final int MOST_BYTES = 48;
    private static final int MOST_HOLDERS = 4;
    private static final int MOST_PIECES = 6;
    private static final int MOST_ACTS = 14;
    private static final int MOST_DOINGS = 4;
    private static final int MOST_TURNED = 6;
    private static final int MOST_CHANCES = 6;
    private static final int MOST_YEARS = 30;
    private static final int MOST_SLOTS = 2;
    private static final int ROWS_OF_PIECES = 1 << MOST_PIECES;

    /** The first of the three figures that tell a doing; ACTS are kept in the same figures. */
    private static final int TILTED = 1;
    private static final int GIVEN = 2;
    private static final int AN_HOUR = 3;
    private static final int IS_SEEN = 4;

    private static final long SEED_TIMES = 6364136223846793005L;
    private static final long SEED_MORE = 1442695040888963407L;
    private static final int SEED_LOTS = 18;
    private static final int TILTING_LOTS = 12;

    private final Text text = new Text();
    private Coast told = new Coast();
    private Coast draft = new Coast();
    private final State now = new State();
    private final State trial = new State();
    private final State[] slots = new State[MOST_SLOTS];
    private final Acts acts = new Acts();
    private final Turned turned = new Turned();
    private final Givings givings = new Givings();
    private final Mothers rows = new Mothers();
    private final int[] doings = new int[MOST_DOINGS];
    private final int[] chances = new int[MOST_CHANCES + 1];
    private long theSeed;

    public PearlMother() {
        for (int slot = 0; slot < MOST_SLOTS; slot++) {
            slots[slot] = new State();
        }
    }

    // ---- the coast

    public int write(int letter) {
        if (letter < 0 || letter > 255) {
            return BAD;
        }
        return text.add(letter) ? text.length : FULL;
    }

    public int wipe() {
        int length = text.length;
        text.length = 0;
        return length;
    }

    public int fault() {
        return text.readInto(draft);
    }

    public int coast() {
        if (text.readInto(draft) != NONE) {
            return LATE;
        }
        Coast former = told;
        told = draft;
        draft = former;
        now.begin(told);
        acts.count = 0;
        for (int slot = 0; slot < MOST_SLOTS; slot++) {
            slots[slot].kept = false;
        }
        return 10 * told.holders + told.pieces;
    }

    public int about(int what) {
        switch (what) {
            case 0:
                return told.holders;
            case 1:
                return told.pieces;
            case 2:
                return now.light;
            case 3:
                return now.hour;
            case 4:
                return whoSeesHerLook(now);
            case 5:
                return partsSeenTogether();
            case 6:
                return acts.count;
            case 7:
                return turned.count;
            case 8:
                return text.length;
            default:
                return BAD;
        }
    }

    public int holder(int holder, int what) {
        if (!told.hasHolder(holder)) {
            return UNKNOWN;
        }
        switch (what) {
            case 0:
                return told.holderKind[holder];
            case 1:
                return piecesOf(holder);
            case 2:
                return partsSeen(now, holder, 0);
            default:
                return BAD;
        }
    }

    public int piece(int piece, int what) {
        if (!told.hasPiece(piece)) {
            return UNKNOWN;
        }
        switch (what) {
            case 0:
                return told.part[piece];
            case 1:
                return told.angle[piece];
            case 2:
                return told.kind[piece];
            case 3:
                return now.tilt[piece];
            case 4:
                return now.heldBy[piece];
            case 5:
                return now.angleOf(piece);
            case 6:
                return showsAfter(now, piece, now.heldBy[piece], 0) ? 1 : 0;
            default:
                return BAD;
        }
    }

    public int shows(int piece, int holder, int angle) {
        if (!told.hasPiece(piece) || !told.hasHolder(holder)) {
            return UNKNOWN;
        }
        if (!isBelow(angle, ANGLES)) {
            return BAD;
        }
        return told.showsAt(piece, holder, angle) ? 1 : 0;
    }

    // ---- acts

    public int tilt(int piece, boolean more) {
        if (!told.hasPiece(piece)) {
            return UNKNOWN;
        }
        now.tiltBy(piece, more ? 1 : -1);
        acts.add(TILTED, piece, more ? 1 : 0);
        return now.tilt[piece];
    }

    public int give(int piece, int holder) {
        if (!told.hasPiece(piece) || !told.hasHolder(holder)) {
            return UNKNOWN;
        }
        int former = now.heldBy[piece];
        if (former == holder) {
            return LATE;
        }
        now.heldBy[piece] = holder;
        acts.add(GIVEN, piece, former);
        return former;
    }

    public int hour() {
        now.passHours(1);
        acts.add(AN_HOUR, 0, 0);
        return now.light;
    }

    public int undo() {
        if (acts.count == 0) {
            return LATE;
        }
        takeBack(acts.removeLast());
        return acts.count;
    }

    // ---- what is seen

    public int tilts(int piece, int holder) {
        if (!told.hasPiece(piece) || !told.hasHolder(holder)) {
            return UNKNOWN;
        }
        return fewestTilts(piece, holder);
    }

    public int finds(int holder, int part) {
        if (!told.hasHolder(holder)) {
            return UNKNOWN;
        }
        return isBelow(part, PARTS) ? fewestTiltsToSee(holder, part) : BAD;
    }

    public int all(int holder) {
        if (!told.hasHolder(holder)) {
            return UNKNOWN;
        }
        int held = partsHeld(holder);
        int together = 0;
        for (int part = 0; part < PARTS; part++) {
            if (hasBit(held, part)) {
                int fewest = fewestTiltsToSee(holder, part);
                if (fewest == NONE) {
                    return NONE;
                }
                together += fewest;
            }
        }
        return together;
    }

    public int when(int holder, int part) {
        if (!told.hasHolder(holder)) {
            return UNKNOWN;
        }
        return isBelow(part, PARTS) ? hoursUntilSeen(holder, part) : BAD;
    }

    public int mothers() {
        rows.find(told);
        return rows.fewest[(1 << told.pieces) - 1];
    }

    public int giving(boolean way) {
        givings.begin(told, now);
        tryGivings(givings, 0, 0, 0);
        return way ? givings.way : givings.most;
    }

    public int judge(int n, long row) {
        if (n < 1 || n > MOST_DOINGS || row < 0) {
            return BAD;
        }
        long rest = row;
        for (int place = n - 1; place >= 0; place--) {
            doings[place] = (int) (rest % 1000);
            rest /= 1000;
        }
        if (rest != 0) {
            return BAD;
        }
        trial.copyFrom(now);
        for (int place = 0; place < n; place++) {
            if (!canBeDone(doings[place])) {
                return place;
            }
        }
        return NONE;
    }

    public int share(int piece, boolean upper) {
        if (!told.hasPiece(piece)) {
            return UNKNOWN;
        }
        if (!showsAfter(now, piece, now.heldBy[piece], 0)) {
            return inLeastTerms(0, 1, upper);
        }
        // A PART is new only with the first of the PIECES that show it, and each of these is
        // first in as many orders as any other.
        return inLeastTerms(1, piecesThatShow(told.part[piece]), upper);
    }

    // ---- the unknown piece

    public int turn(int angle, int v) {
        if (!isBelow(angle, ANGLES) || !isBelow(v, ANSWERS)) {
            return BAD;
        }
        return turned.add(angle, v) ? turned.count : FULL;
    }

    public int unturn() {
        int count = turned.count;
        turned.count = 0;
        return count;
    }

    public int may(int what) {
        if (what != 0 && what != 1) {
            return BAD;
        }
        turned.weigh();
        return what == 0 ? turned.fitting : turned.first;
    }

    public int next() {
        turned.weigh();
        return turned.bestAngle();
    }

    // ---- rests, chances

    public int rests(int piece, int holder, int other, int what) {
        if (!told.hasPiece(piece) || !told.hasHolder(holder) || !told.hasHolder(other)) {
            return UNKNOWN;
        }
        if (holder == other || what < 0 || what > 1) {
            return BAD;
        }
        int count = 0;
        int first = NONE;
        for (int one = 0; one <= 1; one++) {
            for (int two = 0; two <= 1; two++) {
                if (staysWith(piece, holder, one, two) && staysWith(piece, other, two, one)) {
                    first = count == 0 ? 10 * one + two : first;
                    count++;
                }
            }
        }
        return what == 0 ? count : first;
    }

    public int glints(int holder, int part, int n, int x, boolean upper) {
        if (!told.hasHolder(holder)) {
            return UNKNOWN;
        }
        if (!isBelow(part, PARTS) || n < 1 || n > MOST_CHANCES || x < 0 || x > 10) {
            return BAD;
        }
        int whole = spreadChances(n, x);
        int seen = 0;
        // LIGHT never goes back: it comes by the first HOUR of sight if it goes on that often.
        int least = hoursUntilSeen(holder, part);
        if (least != NONE) {
            for (int steps = least; steps <= n; steps++) {
                seen += chances[steps];
            }
        }
        return inLeastTerms(seen, whole, upper);
    }

    public long seed(long v) {
        long former = theSeed;
        theSeed = v;
        return former;
    }

    public int years(int m) {
        if (m < 1 || m > MOST_YEARS) {
            return BAD;
        }
        trial.copyFrom(now);
        int together = 0;
        for (int time = 0; time < m; time++) {
            theSeed = theSeed * SEED_TIMES + SEED_MORE;
            befall((int) ((theSeed >>> 33) % SEED_LOTS));
            together += Integer.bitCount(whoSeesHerLook(trial));
        }
        return together;
    }

    // ---- slots

    public int keep(int slot) {
        if (!isBelow(slot, MOST_SLOTS)) {
            return UNKNOWN;
        }
        slots[slot].copyFrom(now);
        slots[slot].kept = true;
        return now.hour;
    }

    public int again(int slot) {
        if (!isBelow(slot, MOST_SLOTS)) {
            return UNKNOWN;
        }
        if (!slots[slot].kept) {
            return LATE;
        }
        now.copyFrom(slots[slot]);
        acts.count = 0;
        return now.hour;
    }

    // ---- what the calls are made of

    private static boolean isBelow(int figure, int limit) {
        return figure >= 0 && figure < limit;
    }

    private static boolean hasBit(int bits, int place) {
        return (bits >> place & 1) == 1;
    }

    /** By 8; the mask brings what is below 0 round as well. */
    private static int byEight(int steps) {
        return steps & ANGLES - 1;
    }

    private static int apart(int one, int other) {
        int steps = byEight(one - other);
        return Math.min(steps, ANGLES - steps);
    }

    private static int reachOf(int kind) {
        switch (kind) {
            case DULL:
                return 0;
            case WIDE:
                return 2;
            default:
                return 1;
        }
    }

    /** Whether a PIECE (its PART, own ANGLE, KIND) shows at an ANGLE to a KIND of HOLDER. */
    private static boolean isShown(int part, int own, int kind, int holderKind, int angle) {
        if (holderKind == BLIND) {
            return false;
        }
        if (holderKind == GAMBLER && part == HER_LOOK) {
            return true;
        }
        int reach = reachOf(kind) + (holderKind == CHILD ? 1 : 0);
        return apart(angle, own) <= reach
                || kind == DEEP && apart(angle, own + OVER_AGAINST) <= reach;
    }

    /** A FRACTION's upper or lower number. */
    private static int inLeastTerms(int above, int below, boolean upper) {
        int common = above;
        int rest = below;
        // Euclid's steps: two ints need fewer than 50.
        for (int step = 0; step < 50 && rest != 0; step++) {
            int left = common % rest;
            common = rest;
            rest = left;
        }
        int number = upper ? above : below;
        return common > 0 ? number / common : number;
    }

    /** Whether a PIECE would show to a HOLDER, were it tilted or the LIGHT gone on by steps. */
    private boolean showsAfter(State state, int piece, int holder, int steps) {
        return told.showsAt(piece, holder, state.angleOf(piece) + steps);
    }

    private int partsSeen(State state, int holder, int hours) {
        int parts = 0;
        for (int piece = 0; piece < told.pieces; piece++) {
            if (state.heldBy[piece] == holder && showsAfter(state, piece, holder, hours)) {
                parts |= 1 << told.part[piece];
            }
        }
        return parts;
    }

    private int partsSeenTogether() {
        int parts = 0;
        for (int holder = 0; holder < told.holders; holder++) {
            parts |= partsSeen(now, holder, 0);
        }
        return parts;
    }

    private int whoSeesHerLook(State state) {
        int who = 0;
        for (int holder = 0; holder < told.holders; holder++) {
            if (hasBit(partsSeen(state, holder, 0), HER_LOOK)) {
                who |= 1 << holder;
            }
        }
        return who;
    }

    private int piecesOf(int holder) {
        int held = 0;
        for (int piece = 0; piece < told.pieces; piece++) {
            if (now.heldBy[piece] == holder) {
                held |= 1 << piece;
            }
        }
        return held;
    }

    private int partsHeld(int holder) {
        int held = 0;
        for (int piece = 0; piece < told.pieces; piece++) {
            if (now.heldBy[piece] == holder) {
                held |= 1 << told.part[piece];
            }
        }
        return held;
    }

    private int piecesThatShow(int part) {
        int count = 0;
        for (int piece = 0; piece < told.pieces; piece++) {
            if (told.part[piece] == part && showsAfter(now, piece, now.heldBy[piece], 0)) {
                count++;
            }
        }
        return count;
    }

    private void takeBack(int act) {
        int piece = act / 10 % 10;
        int figure = act % 10;
        switch (act / 100) {
            case TILTED:
                now.tiltBy(piece, figure == 1 ? -1 : 1);
                break;
            case GIVEN:
                now.giveTo(piece, figure);
                break;
            default:
                now.passHours(-1);
                break;
        }
    }

    private int fewestTilts(int piece, int holder) {
        for (int steps = 0; steps <= OVER_AGAINST; steps++) {
            if (showsAfter(now, piece, holder, steps) || showsAfter(now, piece, holder, -steps)) {
                return steps;
            }
        }
        return NONE;
    }

    private int fewestTiltsToSee(int holder, int part) {
        int fewest = NONE;
        for (int piece = 0; piece < told.pieces; piece++) {
            if (now.heldBy[piece] == holder && told.part[piece] == part) {
                int steps = fewestTilts(piece, holder);
                if (steps != NONE && (fewest == NONE || steps < fewest)) {
                    fewest = steps;
                }
            }
        }
        return fewest;
    }

    private int hoursUntilSeen(int holder, int part) {
        for (int hours = 0; hours < ANGLES; hours++) {
            if (hasBit(partsSeen(now, holder, hours), part)) {
                return hours;
            }
        }
        return NONE;
    }

    /** Does on trial what three figures tell; false: it can not be, or is not so. */
    private boolean canBeDone(int doing) {
        int one = doing / 10 % 10;
        int other = doing % 10;
        switch (doing / 100) {
            case TILTED:
                if (!told.hasPiece(one) || other > 1) {
                    return false;
                }
                trial.tiltBy(one, other == 1 ? 1 : -1);
                return true;
            case GIVEN:
                if (!told.hasPiece(one) || !told.hasHolder(other) || trial.heldBy[one] == other) {
                    return false;
                }
                trial.giveTo(one, other);
                return true;
            case AN_HOUR:
                if (one != 0 || other != 0) {
                    return false;
                }
                trial.passHours(1);
                return true;
            case IS_SEEN:
                return told.hasHolder(one) && other < PARTS
                        && hasBit(partsSeen(trial, one, 0), other);
            default:
                return false;
        }
    }

    /** Tries all ways to give the PIECES from this one on, the least figures first. */
    private static void tryGivings(Givings search, int piece, int seen, int figures) {
        int count = Integer.bitCount(seen);
        if (piece > MOST_PIECES || count + search.hope[piece] <= search.most) {
            return;
        }
        if (piece >= search.pieces || piece >= MOST_PIECES) {
            search.most = count;
            search.way = figures;
            return;
        }
        for (int holder = 0; holder < search.holders; holder++) {
            int more = hasBit(search.seers[piece], holder)
                    ? 1 << PARTS * holder + search.part[piece] : 0;
            tryGivings(search, piece + 1, seen | more, 10 * figures + holder + 1);
        }
    }

    /** What a HOLDER has at a PIECE that is tilted by steps, its own among them. */
    private int worth(int piece, int holder, int own, int steps) {
        return (showsAfter(now, piece, holder, steps) ? 2 : 0) - own;
    }

    /** Whether a HOLDER has no more by its other choice, the other's being what it is. */
    private boolean staysWith(int piece, int holder, int own, int others) {
        int another = 1 - own;
        return worth(piece, holder, own, own + others)
                >= worth(piece, holder, another, another + others);
    }

    /** Puts into chances how often, of 10 to the n (the answer), LIGHT goes on by each number. */
    private int spreadChances(int n, int x) {
        int whole = 1;
        chances[0] = 1;
        for (int hour = 1; hour <= n; hour++) {
            whole *= 10;
            chances[hour] = 0;
            for (int steps = hour; steps > 0; steps--) {
                chances[steps] = chances[steps] * (10 - x) + chances[steps - 1] * x;
            }
            chances[0] *= 10 - x;
        }
        return whole;
    }

    /** One of the 18 lots that THE SEED draws, on trial. */
    private void befall(int lot) {
        if (lot >= TILTING_LOTS) {
            trial.passHours(1);
        } else if (told.hasPiece(lot / 2)) {
            trial.tiltBy(lot / 2, lot % 2 == 1 ? 1 : -1);
        }
    }

    /** THE TEXT. */
    private static final class Text {
        final int[] bytes = new int[MOST_BYTES];
        int length;

        boolean add(int letter) {
            if (length >= MOST_BYTES) {
                return false;
            }
            bytes[length] = letter;
            length++;
            return true;
        }

        /** FAULT; a draft that is read with a FAULT is no COAST. */
        int readInto(Coast draft) {
            draft.clear();
            int due = Coast.MARK_DUE;
            for (int place = 0; place < length; place++) {
                due = draft.take(due, bytes[place]);
                if (due == Coast.WRONG) {
                    return place;
                }
            }
            return due == Coast.THING_DUE ? NONE : length;
        }
    }

    /** What a text tells, none of which ever changes. */
    private static final class Coast {
        static final int WRONG = -1;
        static final int MARK_DUE = 0;
        static final int LIGHT_DUE = 1;
        static final int THING_DUE = 2;
        static final int HOLDER_KIND_DUE = 3;
        static final int PART_DUE = 4;
        static final int ANGLE_DUE = 5;
        static final int KIND_DUE = 6;
        static final int HELD_BY_DUE = 7;

        final int[] holderKind = new int[MOST_HOLDERS];
        final int[] part = new int[MOST_PIECES];
        final int[] angle = new int[MOST_PIECES];
        final int[] kind = new int[MOST_PIECES];
        final int[] heldBy = new int[MOST_PIECES];
        int light;
        int holders;
        int pieces;

        boolean hasHolder(int holder) {
            return isBelow(holder, holders);
        }

        boolean hasPiece(int piece) {
            return isBelow(piece, pieces);
        }

        boolean showsAt(int piece, int holder, int at) {
            return hasPiece(piece) && hasHolder(holder)
                    && isShown(part[piece], angle[piece], kind[piece], holderKind[holder], at);
        }

        void clear() {
            light = 0;
            holders = 0;
            pieces = 0;
        }

        /** Takes the next byte where due tells what must come: what is due then, or WRONG. */
        int take(int due, int letter) {
            int figure = letter - '0';
            switch (due) {
                case MARK_DUE:
                    return letter == 'P' ? LIGHT_DUE : WRONG;
                case LIGHT_DUE:
                    light = figure;
                    return isBelow(figure, ANGLES) ? THING_DUE : WRONG;
                case THING_DUE:
                    return takeThing(letter);
                case HOLDER_KIND_DUE:
                    return takeFigure(holderKind, holders, figure, KINDS) ? endHolder() : WRONG;
                case PART_DUE:
                    return takeFigure(part, pieces, figure, PARTS) ? ANGLE_DUE : WRONG;
                case ANGLE_DUE:
                    return takeFigure(angle, pieces, figure, ANGLES) ? KIND_DUE : WRONG;
                case KIND_DUE:
                    return takeFigure(kind, pieces, figure, KINDS) ? HELD_BY_DUE : WRONG;
                case HELD_BY_DUE:
                    return takeFigure(heldBy, pieces, figure, holders) ? endPiece() : WRONG;
                default:
                    return WRONG;
            }
        }

        /** A PIECE that no HOLDER could hold, or one too many, is wrong from its first byte. */
        int takeThing(int letter) {
            if (letter == 'H' && holders < MOST_HOLDERS) {
                return HOLDER_KIND_DUE;
            }
            if (letter == 'C' && holders > 0 && pieces < MOST_PIECES) {
                return PART_DUE;
            }
            return WRONG;
        }

        static boolean takeFigure(int[] row, int place, int figure, int limit) {
            if (!isBelow(figure, limit) || !isBelow(place, row.length)) {
                return false;
            }
            row[place] = figure;
            return true;
        }

        int endHolder() {
            holders++;
            return THING_DUE;
        }

        int endPiece() {
            pieces++;
            return THING_DUE;
        }
    }

    /** All that ACTS change, and SLOTS keep. */
    private static final class State {
        final int[] tilt = new int[MOST_PIECES];
        final int[] heldBy = new int[MOST_PIECES];
        int light;
        int hour;
        /** Of a SLOT's state alone. */
        boolean kept;

        void begin(Coast coast) {
            for (int piece = 0; piece < MOST_PIECES; piece++) {
                tilt[piece] = 0;
                heldBy[piece] = coast.heldBy[piece];
            }
            light = coast.light;
            hour = 0;
        }

        void copyFrom(State other) {
            System.arraycopy(other.tilt, 0, tilt, 0, MOST_PIECES);
            System.arraycopy(other.heldBy, 0, heldBy, 0, MOST_PIECES);
            light = other.light;
            hour = other.hour;
        }

        /** The ANGLE at which a PIECE is in the LIGHT. */
        int angleOf(int piece) {
            return isBelow(piece, MOST_PIECES) ? byEight(tilt[piece] + light) : 0;
        }

        void tiltBy(int piece, int steps) {
            if (isBelow(piece, MOST_PIECES)) {
                tilt[piece] = byEight(tilt[piece] + steps);
            }
        }

        void giveTo(int piece, int holder) {
            if (isBelow(piece, MOST_PIECES)) {
                heldBy[piece] = holder;
            }
        }

        void passHours(int hours) {
            light = byEight(light + hours);
            hour += hours;
        }
    }

    /** ACTS, each in three figures: what, the PIECE, and which way or who held it. */
    private static final class Acts {
        final int[] row = new int[MOST_ACTS];
        int count;

        void add(int what, int piece, int figure) {
            if (count >= MOST_ACTS) {
                System.arraycopy(row, 1, row, 0, MOST_ACTS - 1);
                count = MOST_ACTS - 1;
            }
            row[count] = 100 * what + 10 * piece + figure;
            count++;
        }

        int removeLast() {
            if (count <= 0) {
                return 0;
            }
            count--;
            return row[count];
        }
    }

    /** What was TURNED, and what the unknown PIECE may be by it. */
    private static final class Turned {
        final int[] angles = new int[MOST_TURNED];
        final int[] answers = new int[MOST_TURNED];
        int count;

        /** By the last weighing: how many fit, the first of them, and how many answer alike. */
        int fitting;
        int first;
        final int[] alike = new int[ANGLES * ANSWERS];

        boolean add(int angle, int answer) {
            if (count >= MOST_TURNED) {
                return false;
            }
            angles[count] = angle;
            answers[count] = answer;
            count++;
            return true;
        }

        static int answerOf(int part, int own, int kind, int angle) {
            return isShown(part, own, kind, PLAIN_HOLDER, angle) ? part : NOTHING;
        }

        boolean fits(int part, int own, int kind) {
            for (int one = 0; one < count; one++) {
                if (answerOf(part, own, kind, angles[one]) != answers[one]) {
                    return false;
                }
            }
            return true;
        }

        void weigh() {
            fitting = 0;
            first = NONE;
            for (int place = 0; place < ANGLES * ANSWERS; place++) {
                alike[place] = 0;
            }
            for (int part = 0; part < PARTS; part++) {
                for (int own = 0; own < ANGLES; own++) {
                    for (int kind = 0; kind < KINDS; kind++) {
                        if (fits(part, own, kind)) {
                            tally(part, own, kind);
                        }
                    }
                }
            }
        }

        void tally(int part, int own, int kind) {
            if (fitting == 0) {
                first = 100 * part + 10 * own + kind;
            }
            fitting++;
            for (int angle = 0; angle < ANGLES; angle++) {
                alike[ANSWERS * angle + answerOf(part, own, kind, angle)]++;
            }
        }

        int bestAngle() {
            int best = NONE;
            int least = fitting + 1;
            for (int angle = 0; angle < ANGLES && fitting > 0; angle++) {
                int greatest = 0;
                for (int answer = 0; answer < ANSWERS; answer++) {
                    greatest = Math.max(greatest, alike[ANSWERS * angle + answer]);
                }
                if (greatest < least) {
                    least = greatest;
                    best = angle;
                }
            }
            return best;
        }
    }

    /** The search for GIVING. */
    private static final class Givings {
        final int[] part = new int[MOST_PIECES];
        /** By PIECES, to which HOLDERS each would show now (bits). */
        final int[] seers = new int[MOST_PIECES];
        /** How many of the PIECES from this one on show to anybody: no way can see more. */
        final int[] hope = new int[MOST_PIECES + 1];
        int holders;
        int pieces;
        int most;
        int way;

        void begin(Coast coast, State state) {
            holders = coast.holders;
            pieces = coast.pieces;
            most = -1;
            way = 0;
            hope[MOST_PIECES] = 0;
            for (int piece = MOST_PIECES - 1; piece >= 0; piece--) {
                part[piece] = coast.part[piece];
                seers[piece] = seersOf(coast, piece, state.angleOf(piece));
                hope[piece] = hope[piece + 1] + (seers[piece] == 0 ? 0 : 1);
            }
        }

        static int seersOf(Coast coast, int piece, int angle) {
            int who = 0;
            for (int holder = 0; holder < coast.holders; holder++) {
                if (coast.showsAt(piece, holder, angle)) {
                    who |= 1 << holder;
                }
            }
            return who;
        }
    }

    /** The search for MOTHERS: rows are bits of PIECES, and so are all PIECES of some rows. */
    private static final class Mothers {
        final boolean[] isRow = new boolean[ROWS_OF_PIECES];
        final int[] fewest = new int[ROWS_OF_PIECES];

        void find(Coast coast) {
            isRow[0] = true;
            fewest[0] = 0;
            for (int set = 1; set < 1 << coast.pieces; set++) {
                int last = 31 - Integer.numberOfLeadingZeros(set);
                int others = set ^ 1 << last;
                isRow[set] = isRow[others] && goesWith(coast, last, others);
                fewest[set] = fewestOf(set, last);
            }
        }

        static boolean goesWith(Coast coast, int piece, int others) {
            for (int other = 0; other < piece; other++) {
                if (hasBit(others, other) && (coast.part[other] == coast.part[piece]
                        || apart(coast.angle[other], coast.angle[piece]) > 2)) {
                    return false;
                }
            }
            return true;
        }

        /** The last PIECE is in some row: of all such the one that leaves the fewest others. */
        int fewestOf(int set, int last) {
            int least = MOST_PIECES;
            for (int row = set; row >= 1 << last; row--) {
                if ((row & ~set) == 0 && isRow[row]) {
                    least = Math.min(least, 1 + fewest[set ^ row]);
                }
            }
            return least;
        }
    }
}
