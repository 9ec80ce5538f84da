import java.util.Random;

/** Runs of calls by chance (always the same ones), each answered by the class and by the model. */
public final class ModelTest {
    /** An object is used for 512 calls; the longest step, a text and all that can be told, takes 220. */
    private static final int LAST_STEP = 512 - 220;
    private static final int[] WILD = {Integer.MIN_VALUE, -9, -2, -1, 31, 32, 63, 255, 256, Integer.MAX_VALUE};

    private final Random random;
    private final PearlMother mother = new PearlMother();
    private final Model model = new Model();
    private final StringBuilder told = new StringBuilder();
    private int calls;

    private ModelTest(long run) {
        random = new Random(run);
    }

    public static void main(String[] args) {
        int runs = args.length > 0 ? Integer.parseInt(args[0]) : 3000;
        for (long run = 0; run < runs; run++) {
            new ModelTest(run).run((int) (run % 4));
        }
        Due.end("ModelTest");
    }

    /** Mostly a figure from 0 to one beyond most, at times anything. */
    private int figure(int most) {
        return random.nextInt(60) == 0 ? WILD[random.nextInt(WILD.length)] : random.nextInt(most + 2) - random.nextInt(40) / 39;
    }

    private int holder() {
        return figure(model.about(0));
    }

    private int piece() {
        return figure(model.about(1));
    }

    private void same(String call, long got, long want) {
        calls++;
        told.append(call).append(' ');
        Due.due(told.length() > 3000 ? "..." + told.substring(told.length() - 3000) : told.toString(), got, want);
    }

    private void tell(String text) {
        same("wipe()", mother.wipe(), model.wipe());
        for (char letter : text.toCharArray()) {
            same("write(" + (int) letter + ")", mother.write(letter), model.write(letter));
        }
        same("fault()", mother.fault(), model.fault());
        same("coast()", mother.coast(), model.coast());
    }

    /** A coast with one byte amiss, or cut short, or with bytes behind it. */
    private String amiss(String text) {
        StringBuilder other = new StringBuilder(text);
        int place = random.nextInt(other.length());
        String letters = "PHC0123456789 h";
        char letter = letters.charAt(random.nextInt(letters.length()));
        switch (random.nextInt(4)) {
            case 0 -> other.setLength(place);
            case 1 -> other.setCharAt(place, letter);
            case 2 -> other.insert(place, letter);
            default -> other.append(letter);
        }
        return other.toString();
    }

    private void run(int size) {
        if (size > 0) {
            tell(Due.coastByChance(random, 1 + random.nextInt(4), 2 * size));
        }
        while (calls < LAST_STEP) {
            if (random.nextInt(80) == 0) {
                String text = Due.coastByChance(random, 4, 6);
                tell(random.nextBoolean() ? text : amiss(text));
            }
            if (random.nextInt(3) == 0) {
                act();
            } else {
                ask();
            }
        }
    }

    private void act() {
        int piece = piece();
        int holder = holder();
        boolean more = random.nextBoolean();
        switch (random.nextInt(13)) {
            case 0, 1, 2 -> same("tilt(" + piece + ", " + more + ")", mother.tilt(piece, more), model.tilt(piece, more));
            case 3, 4 -> same("give(" + piece + ", " + holder + ")", mother.give(piece, holder), model.give(piece, holder));
            case 5, 6 -> same("hour()", mother.hour(), model.hour());
            case 7, 8 -> same("undo()", mother.undo(), model.undo());
            case 9 -> turn();
            case 10 -> same("keep(" + piece + ")", mother.keep(piece), model.keep(piece));
            case 11 -> same("again(" + piece + ")", mother.again(piece), model.again(piece));
            default -> {
                long seed = random.nextBoolean() ? random.nextLong() : random.nextInt(5);
                same("seed(" + seed + ")", mother.seed(seed), model.seed(seed));
            }
        }
    }

    private void turn() {
        if (random.nextInt(8) == 0) {
            same("unturn()", mother.unturn(), model.unturn());
            return;
        }
        int angle = figure(7);
        int v = random.nextInt(3) > 0 ? 5 : figure(5);
        same("turn(" + angle + ", " + v + ")", mother.turn(angle, v), model.turn(angle, v));
    }

    private long doings(int n) {
        long row = 0;
        for (int place = 0; place < Math.min(n, 5); place++) {
            int what = 1 + random.nextInt(4);
            int one = what == 3 ? random.nextInt(12) / 11 : Math.min(9, Math.max(0, random.nextInt(model.about(1) + 2)));
            int two = what == 3 ? random.nextInt(12) / 11 : random.nextInt(what == 1 ? 3 : 5);
            row = 1000 * row + (random.nextInt(30) == 0 ? random.nextInt(1000) : 100 * what + 10 * one + two);
        }
        return switch (random.nextInt(40)) {
            case 0 -> -row;
            case 1 -> random.nextLong();
            case 2 -> row * 10;
            default -> row;
        };
    }

    private void ask() {
        int piece = piece();
        int holder = holder();
        int part = figure(4);
        boolean yes = random.nextBoolean();
        String of = "(" + piece + ", " + holder + ", " + part + ", " + yes + ")";
        switch (random.nextInt(19)) {
            case 0 -> same("about" + of, mother.about(part * 2), model.about(part * 2));
            case 1 -> same("holder" + of, mother.holder(holder, part), model.holder(holder, part));
            case 2 -> same("piece" + of, mother.piece(piece, part), model.piece(piece, part));
            case 3 -> same("shows" + of, mother.shows(piece, holder, part * 2), model.shows(piece, holder, part * 2));
            case 4 -> same("tilts" + of, mother.tilts(piece, holder), model.tilts(piece, holder));
            case 5 -> same("finds" + of, mother.finds(holder, part), model.finds(holder, part));
            case 6 -> same("all" + of, mother.all(holder), model.all(holder));
            case 7 -> same("when" + of, mother.when(holder, part), model.when(holder, part));
            case 8 -> same("mothers()", mother.mothers(), model.mothers());
            case 9 -> same("giving" + of, mother.giving(yes), model.giving(yes));
            case 10 -> same("share" + of, mother.share(piece, yes), model.share(piece, yes));
            case 11 -> same("may" + of, mother.may(part % 3), model.may(part % 3));
            case 12 -> same("next()", mother.next(), model.next());
            case 13, 14 -> rests(piece, holder);
            case 15 -> glints(holder, part, yes);
            case 16 -> years();
            case 17 -> about();
            default -> judge();
        }
    }

    private void rests(int piece, int holder) {
        int other = holder();
        int what = figure(1);
        same("rests(" + piece + ", " + holder + ", " + other + ", " + what + ")",
                mother.rests(piece, holder, other, what), model.rests(piece, holder, other, what));
    }

    private void glints(int holder, int part, boolean upper) {
        int n = figure(6);
        int x = figure(10);
        same("glints(" + holder + ", " + part + ", " + n + ", " + x + ", " + upper + ")",
                mother.glints(holder, part, n, x, upper), model.glints(holder, part, n, x, upper));
    }

    private void years() {
        int m = figure(30);
        same("years(" + m + ")", mother.years(m), model.years(m));
    }

    private void judge() {
        int n = random.nextInt(6);
        long row = doings(n);
        same("judge(" + n + ", " + row + ")", mother.judge(n, row), model.judge(n, row));
    }

    /** All that can be told of the state: what calls that answer, not change, have left. */
    private void about() {
        for (int what = -1; what <= 9; what++) {
            same("about(" + what + ")", mother.about(what), model.about(what));
            for (int one = 0; one <= 6; one++) {
                same("piece(" + one + ", " + what + ")", mother.piece(one, what), model.piece(one, what));
                same("holder(" + one + ", " + what + ")", mother.holder(one, what), model.holder(one, what));
            }
        }
    }
}
