import java.util.Random;

/** What the tests share: counting wrong answers, and telling a coast to a new object. */
final class Due {
    private static int wrong = 0;
    private static int asked = 0;
    private static String under = "";

    private Due() {
    }

    static void due(String call, long got, long want) {
        asked++;
        if (got != want) {
            wrong++;
            System.out.println(under + call + " answered " + got + ", due is " + want);
        }
    }

    /** What stands ahead of each wrong answer that is told from here on. */
    static void under(String words) {
        under = words;
    }

    static int asked() {
        return asked;
    }

    static void same(String what, String got, String want) {
        asked++;
        if (!got.equals(want)) {
            wrong++;
            System.out.println(under + what + " is " + got + ", due is " + want);
        }
    }

    static void holds(String what, boolean so) {
        due(what, so ? 1 : 0, 1);
    }

    static void write(PearlMother mother, String text) {
        for (int place = 0; place < text.length(); place++) {
            due("write behind " + text.substring(0, place), mother.write(text.charAt(place)), place + 1);
        }
    }

    static PearlMother coast(String text) {
        PearlMother mother = new PearlMother();
        write(mother, text);
        int holders = 0;
        int pieces = 0;
        for (char letter : text.toCharArray()) {
            holders += letter == 'H' ? 1 : 0;
            pieces += letter == 'C' ? 1 : 0;
        }
        due("coast() of " + text, mother.coast(), 10 * holders + pieces);
        return mother;
    }

    /** A coast by chance, with these numbers of holders and pieces at most. */
    static String coastByChance(Random random, int holders, int pieces) {
        StringBuilder text = new StringBuilder("P").append(random.nextInt(8));
        int told = 0;
        int cut = 0;
        int things = random.nextInt(holders + pieces + 1);
        for (int thing = 0; thing < things; thing++) {
            boolean mayHold = told < holders;
            boolean mayCut = told > 0 && cut < pieces;
            if (mayHold && (!mayCut || random.nextInt(3) == 0)) {
                text.append('H').append(random.nextInt(4));
                told++;
            } else if (mayCut) {
                text.append('C').append(random.nextInt(5)).append(random.nextInt(8))
                        .append(random.nextInt(4)).append(random.nextInt(told));
                cut++;
            }
        }
        return text.toString();
    }

    static void end(String test) {
        System.out.println(test + ": " + asked + " answers, " + wrong + " not as due");
        if (wrong != 0) {
            System.exit(1);
        }
    }
}
