import java.math.BigInteger;
import java.util.ArrayList;
import java.util.HashSet;
import java.util.List;
import java.util.Set;
import java.util.regex.Pattern;

/**
 * The document told a second time, by trying everything out: texts by completing them, orders,
 * ways and paths one by one, undoing by what was there before. Slow, and unlike the class.
 */
final class Model {
    private static final int UNKNOWN = -1, BAD = -2, LATE = -3, FULL = -4, NONE = -9;
    private static final Pattern COAST = Pattern.compile("P[0-7](H[0-3]|C[0-4][0-7][0-3][0-3])*");

    private static final class Piece {
        int part, own, kind;
    }

    private static final class Lie {
        int[] tilts = new int[0];
        int[] holds = new int[0];
        int light, hour;

        Lie copy() {
            Lie copy = new Lie();
            copy.tilts = tilts.clone();
            copy.holds = holds.clone();
            copy.light = light;
            copy.hour = hour;
            return copy;
        }
    }

    private String text = "";
    private List<Integer> holders = new ArrayList<>();
    private List<Piece> pieces = new ArrayList<>();
    private Lie lie = new Lie();
    private final List<Lie> before = new ArrayList<>();
    private final List<int[]> turned = new ArrayList<>();
    private final Lie[] slots = new Lie[2];
    private long seed;

    // ---- the coast

    int write(int letter) {
        if (letter < 0 || letter > 255) return BAD;
        if (text.length() == 48) return FULL;
        text += (char) letter;
        return text.length();
    }

    int wipe() {
        int length = text.length();
        text = "";
        return length;
    }

    /** By its things alone: each HOLDER told ahead of a PIECE that it holds, not too many. */
    private static boolean isCoast(String text) {
        if (!COAST.matcher(text).matches()) return false;
        int told = 0, cut = 0;
        for (int at = 2; at < text.length(); at += text.charAt(at) == 'H' ? 2 : 5) {
            if (text.charAt(at) == 'H') told++;
            else if (text.charAt(at + 4) - '0' < told) cut++;
            else return false;
        }
        return told <= 4 && cut <= 6;
    }

    private static boolean canBecomeCoast(String text) {
        for (String more : new String[] {"", "0", "00", "000", "0000", "P0"}) {
            if (isCoast(text + more)) return true;
        }
        return false;
    }

    int fault() {
        for (int length = 1; length <= text.length(); length++) {
            if (!canBecomeCoast(text.substring(0, length))) return length - 1;
        }
        return isCoast(text) ? NONE : text.length();
    }

    int coast() {
        if (fault() != NONE) return LATE;
        holders = new ArrayList<>();
        pieces = new ArrayList<>();
        List<Integer> holds = new ArrayList<>();
        for (int at = 2; at < text.length(); at += text.charAt(at) == 'H' ? 2 : 5) {
            if (text.charAt(at) == 'H') {
                holders.add(text.charAt(at + 1) - '0');
            } else {
                Piece piece = new Piece();
                piece.part = text.charAt(at + 1) - '0';
                piece.own = text.charAt(at + 2) - '0';
                piece.kind = text.charAt(at + 3) - '0';
                pieces.add(piece);
                holds.add(text.charAt(at + 4) - '0');
            }
        }
        lie = new Lie();
        lie.tilts = new int[pieces.size()];
        lie.holds = holds.stream().mapToInt(Integer::intValue).toArray();
        lie.light = text.charAt(1) - '0';
        before.clear();
        slots[0] = null;
        slots[1] = null;
        return 10 * holders.size() + pieces.size();
    }

    private static boolean isShown(Piece piece, int holderKind, int angle) {
        if (holderKind == 3) return false;
        if (holderKind == 2 && piece.part == 2) return true;
        // walk from its own ANGLE (and the one over against it) as far as it shows, both ways
        int[] far = {1, 0, 1, 2};
        int reach = far[piece.kind] + (holderKind == 1 ? 1 : 0);
        for (int step = -reach; step <= reach; step++) {
            if (Math.floorMod(piece.own + step, 8) == Math.floorMod(angle, 8)) return true;
            if (piece.kind == 2 && Math.floorMod(piece.own + 4 + step, 8) == Math.floorMod(angle, 8)) return true;
        }
        return false;
    }

    private boolean showsNow(Lie at, int piece, int holder) {
        return isShown(pieces.get(piece), holders.get(holder), at.tilts[piece] + at.light);
    }

    private Set<Integer> sees(Lie at, int holder) {
        Set<Integer> parts = new HashSet<>();
        for (int piece = 0; piece < pieces.size(); piece++) {
            if (at.holds[piece] == holder && showsNow(at, piece, holder)) parts.add(pieces.get(piece).part);
        }
        return parts;
    }

    private static int bits(Set<Integer> places) {
        int bits = 0;
        for (int place : places) bits += 1 << place;
        return bits;
    }

    private Set<Integer> sawHerLook(Lie at) {
        Set<Integer> who = new HashSet<>();
        for (int holder = 0; holder < holders.size(); holder++) {
            if (sees(at, holder).contains(2)) who.add(holder);
        }
        return who;
    }

    int about(int what) {
        Set<Integer> together = new HashSet<>();
        for (int holder = 0; holder < holders.size(); holder++) together.addAll(sees(lie, holder));
        int[] all = {holders.size(), pieces.size(), lie.light, lie.hour, bits(sawHerLook(lie)), bits(together),
            before.size(), turned.size(), text.length()};
        return what < 0 || what >= all.length ? BAD : all[what];
    }

    private boolean noHolder(int holder) {
        return holder < 0 || holder >= holders.size();
    }

    private boolean noPiece(int piece) {
        return piece < 0 || piece >= pieces.size();
    }

    int holder(int holder, int what) {
        if (noHolder(holder)) return UNKNOWN;
        Set<Integer> holds = new HashSet<>();
        for (int piece = 0; piece < pieces.size(); piece++) if (lie.holds[piece] == holder) holds.add(piece);
        int[] all = {holders.get(holder), bits(holds), bits(sees(lie, holder))};
        return what < 0 || what >= all.length ? BAD : all[what];
    }

    int piece(int piece, int what) {
        if (noPiece(piece)) return UNKNOWN;
        Piece it = pieces.get(piece);
        int[] all = {it.part, it.own, it.kind, lie.tilts[piece], lie.holds[piece],
            (lie.tilts[piece] + lie.light) % 8, showsNow(lie, piece, lie.holds[piece]) ? 1 : 0};
        return what < 0 || what >= all.length ? BAD : all[what];
    }

    int shows(int piece, int holder, int angle) {
        if (noPiece(piece) || noHolder(holder)) return UNKNOWN;
        if (angle < 0 || angle > 7) return BAD;
        return isShown(pieces.get(piece), holders.get(holder), angle) ? 1 : 0;
    }

    // ---- acts

    private void act() {
        before.add(lie.copy());
        if (before.size() > 14) before.remove(0);
    }

    private static void tilted(Lie at, int piece, boolean more) {
        at.tilts[piece] = Math.floorMod(at.tilts[piece] + (more ? 1 : -1), 8);
    }

    private static void anHour(Lie at) {
        at.light = (at.light + 1) % 8;
        at.hour++;
    }

    int tilt(int piece, boolean more) {
        if (noPiece(piece)) return UNKNOWN;
        act();
        tilted(lie, piece, more);
        return lie.tilts[piece];
    }

    int give(int piece, int holder) {
        if (noPiece(piece) || noHolder(holder)) return UNKNOWN;
        int held = lie.holds[piece];
        if (held == holder) return LATE;
        act();
        lie.holds[piece] = holder;
        return held;
    }

    int hour() {
        act();
        anHour(lie);
        return lie.light;
    }

    int undo() {
        if (before.isEmpty()) return LATE;
        lie = before.remove(before.size() - 1);
        return before.size();
    }

    // ---- what is seen

    int tilts(int piece, int holder) {
        if (noPiece(piece) || noHolder(holder)) return UNKNOWN;
        Lie more = lie.copy();
        Lie less = lie.copy();
        for (int count = 0; count <= 4; count++) {
            if (showsNow(more, piece, holder) || showsNow(less, piece, holder)) return count;
            tilted(more, piece, true);
            tilted(less, piece, false);
        }
        return NONE;
    }

    int finds(int holder, int part) {
        if (noHolder(holder)) return UNKNOWN;
        if (part < 0 || part > 4) return BAD;
        int fewest = 99;
        for (int piece = 0; piece < pieces.size(); piece++) {
            if (lie.holds[piece] != holder || pieces.get(piece).part != part) continue;
            int count = tilts(piece, holder);
            if (count != NONE) fewest = Math.min(fewest, count);
        }
        return fewest == 99 ? NONE : fewest;
    }

    /** All TILTS of all PIECES that it holds, each from where it is. */
    int all(int holder) {
        if (noHolder(holder)) return UNKNOWN;
        List<Integer> mine = new ArrayList<>();
        int wanted = 0;
        for (int piece = 0; piece < pieces.size(); piece++) {
            if (lie.holds[piece] == holder) {
                mine.add(piece);
                wanted |= 1 << pieces.get(piece).part;
            }
        }
        int least = allFrom(mine, 0, holder, wanted, 0);
        return least > 99 ? NONE : least;
    }

    private int allFrom(List<Integer> mine, int at, int holder, int wanted, int seen) {
        if (at == mine.size()) return seen == wanted ? 0 : 1000;
        int piece = mine.get(at);
        int least = 1000;
        for (int turn = -3; turn <= 4; turn++) {
            boolean is = isShown(pieces.get(piece), holders.get(holder), lie.tilts[piece] + turn + lie.light);
            int then = is ? seen | 1 << pieces.get(piece).part : seen;
            least = Math.min(least, Math.abs(turn) + allFrom(mine, at + 1, holder, wanted, then));
        }
        return least;
    }

    int when(int holder, int part) {
        if (noHolder(holder)) return UNKNOWN;
        if (part < 0 || part > 4) return BAD;
        Lie later = lie.copy();
        for (int hours = 0; hours < 8; hours++) {
            if (sees(later, holder).contains(part)) return hours;
            anHour(later);
        }
        return NONE;
    }

    int mothers() {
        for (int count = 0; count <= 6; count++) {
            if (canBeRows(new int[pieces.size()], 0, count)) return count;
        }
        return 99;
    }

    private boolean canBeRows(int[] row, int at, int count) {
        if (at == pieces.size()) return true;
        for (row[at] = 0; row[at] < count; row[at]++) {
            boolean fits = true;
            for (int other = 0; other < at; other++) {
                Piece one = pieces.get(at), two = pieces.get(other);
                int apart = Math.min(Math.floorMod(one.own - two.own, 8), Math.floorMod(two.own - one.own, 8));
                if (row[other] == row[at] && (one.part == two.part || apart > 2)) fits = false;
            }
            if (fits && canBeRows(row, at + 1, count)) return true;
        }
        return false;
    }

    int giving(boolean way) {
        if (pieces.isEmpty() || holders.isEmpty()) return 0;
        int most = -1, best = 0;
        int ways = 1;
        for (int piece = 0; piece < pieces.size(); piece++) ways *= holders.size();
        for (int one = 0; one < ways; one++) {
            Lie given = lie.copy();
            int rest = one, figures = 0, unit = 1;
            for (int piece = 0; piece < pieces.size(); piece++) {
                given.holds[pieces.size() - 1 - piece] = rest % holders.size();
                figures += unit * (rest % holders.size() + 1);
                rest /= holders.size();
                unit *= 10;
            }
            int seen = 0;
            for (int holder = 0; holder < holders.size(); holder++) seen += sees(given, holder).size();
            if (seen > most || seen == most && figures < best) {
                most = seen;
                best = figures;
            }
        }
        return way ? best : most;
    }

    int judge(int n, long row) {
        if (n < 1 || n > 4 || row < 0) return BAD;
        String figures = Long.toString(row);
        if (figures.length() > 3 * n) return BAD;
        figures = "0".repeat(3 * n - figures.length()) + figures;
        Lie then = lie.copy();
        for (int place = 0; place < n; place++) {
            if (!isDone(then, figures.charAt(3 * place) - '0', figures.charAt(3 * place + 1) - '0',
                    figures.charAt(3 * place + 2) - '0')) return place;
        }
        return NONE;
    }

    private boolean isDone(Lie then, int what, int one, int two) {
        if (what == 1 && !noPiece(one) && (two == 0 || two == 1)) {
            tilted(then, one, two == 1);
            return true;
        }
        if (what == 2 && !noPiece(one) && !noHolder(two) && then.holds[one] != two) {
            then.holds[one] = two;
            return true;
        }
        if (what == 3 && one == 0 && two == 0) {
            anHour(then);
            return true;
        }
        return what == 4 && !noHolder(one) && sees(then, one).contains(two);
    }

    int share(int piece, boolean upper) {
        if (noPiece(piece)) return UNKNOWN;
        int[] sum = new int[2];
        come(piece, new ArrayList<>(), sum);
        return fraction(sum[0], sum[1], upper);
    }

    private int seenOf(List<Integer> there) {
        Set<Integer> parts = new HashSet<>();
        for (int piece : there) if (showsNow(lie, piece, lie.holds[piece])) parts.add(pieces.get(piece).part);
        return parts.size();
    }

    private void come(int piece, List<Integer> there, int[] sum) {
        if (there.size() == pieces.size()) {
            int at = there.indexOf(piece);
            sum[0] += seenOf(there.subList(0, at + 1)) - seenOf(there.subList(0, at));
            sum[1]++;
            return;
        }
        for (int one = 0; one < pieces.size(); one++) {
            if (there.contains(one)) continue;
            there.add(one);
            come(piece, there, sum);
            there.remove(there.size() - 1);
        }
    }

    private static int fraction(int above, int below, boolean upper) {
        int common = BigInteger.valueOf(above).gcd(BigInteger.valueOf(below)).intValue();
        return (upper ? above : below) / common;
    }

    // ---- the unknown piece

    int turn(int angle, int v) {
        if (angle < 0 || angle > 7 || v < 0 || v > 5) return BAD;
        if (turned.size() == 6) return FULL;
        turned.add(new int[] {angle, v});
        return turned.size();
    }

    int unturn() {
        int count = turned.size();
        turned.clear();
        return count;
    }

    private List<Piece> mayBe() {
        List<Piece> all = new ArrayList<>();
        for (int code = 0; code < 1000; code++) {
            Piece piece = new Piece();
            piece.part = code / 100;
            piece.own = code / 10 % 10;
            piece.kind = code % 10;
            if (piece.part > 4 || piece.own > 7 || piece.kind > 3) continue;
            boolean may = true;
            for (int[] seen : turned) if (saw(piece, seen[0]) != seen[1]) may = false;
            if (may) all.add(piece);
        }
        return all;
    }

    private static int saw(Piece piece, int angle) {
        return isShown(piece, 0, angle) ? piece.part : 5;
    }

    int may(int what) {
        if (what < 0 || what > 1) return BAD;
        List<Piece> all = mayBe();
        if (what == 0) return all.size();
        return all.isEmpty() ? NONE : 100 * all.get(0).part + 10 * all.get(0).own + all.get(0).kind;
    }

    int next() {
        List<Piece> all = mayBe();
        if (all.isEmpty()) return NONE;
        int best = 0, least = 1000;
        for (int angle = 0; angle < 8; angle++) {
            int greatest = 0;
            for (int answer = 0; answer < 6; answer++) {
                int count = 0;
                for (Piece piece : all) if (saw(piece, angle) == answer) count++;
                greatest = Math.max(greatest, count);
            }
            if (greatest < least) {
                least = greatest;
                best = angle;
            }
        }
        return best;
    }

    // ---- rests, chances

    int rests(int piece, int holder, int other, int what) {
        if (noPiece(piece) || noHolder(holder) || noHolder(other)) return UNKNOWN;
        if (holder == other || what < 0 || what > 1) return BAD;
        int[][] mine = new int[2][2], theirs = new int[2][2];
        for (int a = 0; a < 2; a++) {
            for (int b = 0; b < 2; b++) {
                int angle = lie.tilts[piece] + lie.light + a + b;
                mine[a][b] = (isShown(pieces.get(piece), holders.get(holder), angle) ? 2 : 0) - a;
                theirs[a][b] = (isShown(pieces.get(piece), holders.get(other), angle) ? 2 : 0) - b;
            }
        }
        List<Integer> pairs = new ArrayList<>();
        for (int a = 0; a < 2; a++) {
            for (int b = 0; b < 2; b++) {
                if (mine[1 - a][b] <= mine[a][b] && theirs[a][1 - b] <= theirs[a][b]) pairs.add(10 * a + b);
            }
        }
        if (what == 0) return pairs.size();
        return pairs.isEmpty() ? NONE : pairs.get(0);
    }

    int glints(int holder, int part, int n, int x, boolean upper) {
        if (noHolder(holder)) return UNKNOWN;
        if (part < 0 || part > 4 || n < 1 || n > 6 || x < 0 || x > 10) return BAD;
        int whole = (int) Math.round(Math.pow(10, n));
        int seen = 0;
        for (int path = 0; path < 1 << n; path++) {
            Lie at = lie.copy();
            boolean saw = sees(at, holder).contains(part);
            int weight = 1;
            for (int hour = 0; hour < n; hour++) {
                boolean on = (path >> hour & 1) == 1;
                weight *= on ? x : 10 - x;
                if (on) anHour(at);
                saw |= sees(at, holder).contains(part);
            }
            if (saw) seen += weight;
        }
        return fraction(seen, whole, upper);
    }

    long seed(long v) {
        long was = seed;
        seed = v;
        return was;
    }

    int years(int m) {
        if (m < 1 || m > 30) return BAD;
        BigInteger whole = BigInteger.ONE.shiftLeft(64);
        Lie at = lie.copy();
        int together = 0;
        for (int time = 0; time < m; time++) {
            BigInteger then = BigInteger.valueOf(seed).multiply(new BigInteger("6364136223846793005"))
                    .add(new BigInteger("1442695040888963407")).mod(whole);
            seed = then.longValue();
            int lot = then.divide(BigInteger.ONE.shiftLeft(33)).mod(BigInteger.valueOf(18)).intValue();
            if (lot > 11) anHour(at);
            else if (!noPiece(lot / 2)) tilted(at, lot / 2, lot % 2 == 1);
            together += sawHerLook(at).size();
        }
        return together;
    }

    // ---- slots

    int keep(int slot) {
        if (slot < 0 || slot > 1) return UNKNOWN;
        slots[slot] = lie.copy();
        return lie.hour;
    }

    int again(int slot) {
        if (slot < 0 || slot > 1) return UNKNOWN;
        if (slots[slot] == null) return LATE;
        lie = slots[slot].copy();
        before.clear();
        return lie.hour;
    }
}
