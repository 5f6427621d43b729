/** What the tests share: answers that are due, and texts put on the tape. */
final class Checks {
    private static int asked;
    private static int wrong;

    private Checks() {
    }

    static void due(String call, long got, long want) {
        asked++;
        if (got != want) {
            wrong++;
            System.out.println(call + " answered " + got + ", due is " + want);
        }
    }

    static int asked() {
        return asked;
    }

    static int wrong() {
        return wrong;
    }

    /** Ends the test: exit code 1 if an answer was wrong, or if nothing was asked. */
    static void finish(String name) {
        System.out.println(name + ": " + asked + " answers, " + wrong + " not as due");
        if (wrong != 0 || asked == 0) {
            System.exit(1);
        }
    }

    static void put(TideKeep keep, String text) {
        int before = keep.count(4);
        for (int i = 0; i < text.length(); i += 20) {
            keep.feed(four(text, i), four(text, i + 4), four(text, i + 8), four(text, i + 12), four(text, i + 16));
        }
        keep.end(before + text.length());
    }

    private static int four(String text, int from) {
        int value = 0;
        for (int i = from; i < from + 4; i++) {
            value = value << 8 | (i < text.length() ? text.charAt(i) & 255 : 0);
        }
        return value;
    }

    static int beach(TideKeep keep, String text) {
        put(keep, text);
        return keep.beach();
    }

    static int sea(TideKeep keep, String text) {
        put(keep, text);
        return keep.sea();
    }

    static int plan(TideKeep keep, String text) {
        put(keep, text);
        return keep.plan();
    }

    static int which(TideKeep keep, String text) {
        put(keep, text);
        return keep.which();
    }

    /** An object with a beach and a sea; either must be told without a fault. */
    static TideKeep on(String beach, String sea) {
        TideKeep keep = new TideKeep();
        due("fault of " + beach, beach(keep, beach) < 0 ? keep.fault(0) : 0, 0);
        due("fault of " + sea, sea(keep, sea) < 0 ? keep.fault(0) : 0, 0);
        return keep;
    }

    /** HEIGHTS by the cells' numbers, each behind a blank. */
    static String heights(TideKeep keep) {
        StringBuilder row = new StringBuilder();
        for (int y = 0; y < keep.told(1); y++) {
            for (int x = 0; x < keep.told(0); x++) {
                row.append(' ').append(keep.cell(x, y, 0));
            }
        }
        return row.toString();
    }

    static void dueHeights(TideKeep keep, String want) {
        String got = heights(keep);
        asked++;
        if (!got.equals(want)) {
            wrong++;
            System.out.println("heights are" + got + ", due is" + want);
        }
    }

    /** The next state of THE CHANCE, by long arithmetic. */
    static long step(long chance) {
        return (1103515245L * chance + 12345L) % 2147483648L;
    }

    /** How many WAVES come by a seed in so many minutes of a tide, of each hundred so many. */
    static int wavesBy(long seed, int minutes, int percent) {
        int came = 0;
        long chance = seed;
        for (int i = 0; i < minutes; i++) {
            chance = step(chance);
            if (chance / 65536 % 100 < percent) {
                came++;
                chance = step(step(chance));
            }
        }
        return came;
    }
}
