import java.util.Random;

/** Long runs of drawn calls, each answer beside that of the plain telling (the draws are the same each time). */
public final class PlainTest {
    private final Random random;
    private final TideKeep keep = new TideKeep();
    private final Plain plain = new Plain();
    private final Plain.Beach[] slots = new Plain.Beach[3];

    private PlainTest(long seed) {
        random = new Random(seed);
        plain.beach("");
    }

    public static void main(String[] args) {
        int runs = args.length > 1 ? Integer.parseInt(args[1]) : 400;
        for (int run = 0; run < runs; run++) {
            new PlainTest(run).run(run);
        }
        for (int run = 0; run < 5 * runs; run++) {
            new PlainTest(-1 - run).runWorks(run);
        }
        Checks.finish("PlainTest");
    }

    private int upTo(int n) {
        return random.nextInt(n + 1);
    }

    private int from(int least, int most) {
        return least + random.nextInt(most - least + 1);
    }

    private void run(int number) {
        dueAll(number + ": new");
        for (int i = 0; i < 3; i++) {
            tellBeach();
            tellSea();
            for (int p = upTo(3); p > 0; p--) {
                tellPlan();
            }
            for (int c = 0; c < 18; c++) {
                call(number + "." + i + "." + c);
            }
        }
    }

    /** Small beaches on which works, wettings and places matter more often than on any. */
    private void runWorks(int number) {
        int columns = from(1, 3);
        int rows = from(2, 3);
        plain.columns = columns;
        plain.rows = rows;
        StringBuilder text = new StringBuilder("beach " + columns + " " + rows + "; sand " + from(1, 5) + "; fall ");
        text.append(upTo(1)).append("; damp ").append(upTo(9)).append("; dry ").append(from(1, 4)).append("; pack ");
        text.append(upTo(2)).append("; hump ").append(from(1, 9)).append(" ").append(upTo(9)).append(" ");
        text.append(upTo(3)).append(";");
        String flag = cell();
        text.append("heap ").append(from(1, 5)).append(flag).append("; heap ").append(from(1, 4)).append(cell());
        text.append("; heap ").append(from(1, 4)).append(cell()).append("; flag").append(flag).append(";");
        plain.beach(text.toString());
        Checks.due("beach of " + text, Checks.beach(keep, text.toString()), 11);
        String sea = "wave " + upTo(6) + " " + from(1, 3) + " " + upTo(6) + "; wave " + upTo(6) + " " + from(1, 3) + " "
            + upTo(6) + "; cut " + upTo(2) + ";";
        plain.sea(sea);
        Checks.due("sea of " + sea, Checks.sea(keep, sea), 3);
        int start = upTo(3);
        plain.pass(start);
        keep.pass(start);
        String name = "works " + number + " of " + text + sea;
        int minutes = from(2, 12);
        Checks.due(name + " pail", keep.pail(0, 1, minutes), plain.row(0, 2, 1, minutes));
        Checks.due(name + " row", keep.row(0, 1, 1, minutes), plain.row(0, 1, 1, minutes));
        Checks.due(name + " again", keep.again(0, 1, minutes), plain.again(0, 1, minutes));
        int n = from(1, 8);
        Checks.due(name + " stand", keep.stand(n, 2, minutes), plain.stand(n, 2, minutes));
        int few = from(3, 4);
        if (number % 8 == 0) {
            Checks.due(name + " row", keep.row(0, few, 1, minutes), plain.row(0, few, 1, minutes));
        }
    }

    private String cell() {
        return " " + upTo(plain.columns - 1) + " " + upTo(plain.rows - 1) + " ";
    }

    private void tellBeach() {
        int columns = random.nextInt(8) == 0 ? from(6, 8) : from(1, 4);
        int rows = random.nextInt(8) == 0 ? from(6, 8) : from(1, 4);
        StringBuilder text = new StringBuilder("beach " + columns + " " + rows + ";");
        text.append("sand ").append(random.nextInt(5) == 0 ? upTo(40) : upTo(9)).append(";pack ").append(upTo(3));
        text.append(";dry ").append(from(1, 6)).append(";damp ").append(upTo(16)).append(";fall ").append(upTo(3));
        text.append(";tire ").append(upTo(3)).append(";hump ").append(from(1, 15)).append(" ").append(upTo(7));
        text.append(" ").append(upTo(2)).append(";");
        plain.columns = columns;
        plain.rows = rows;
        for (int i = upTo(4); i > 0; i--) {
            text.append("heap ").append(random.nextInt(4) == 0 ? from(1, 14) : from(1, 5)).append(cell()).append(";");
        }
        text.append(things("stone", upTo(3), columns * rows));
        text.append(things("flag", upTo(3), columns * rows));
        plain.beach(text.toString());
        Checks.due("beach of " + text, Checks.beach(keep, text.toString()) < 0 ? keep.fault(0) : 0, 0);
        slots[0] = null;
        slots[1] = null;
        slots[2] = null;
    }

    /** Stones or flags at cells that differ. */
    private String things(String word, int howMany, int cells) {
        StringBuilder text = new StringBuilder();
        int first = random.nextInt(cells);
        for (int i = 0; i < Math.min(howMany, cells); i++) {
            int c = (first + i) % cells;
            text.append(word).append(" ").append(c % plain.columns).append(" ").append(c / plain.columns).append(";");
        }
        return text.toString();
    }

    private void tellSea() {
        StringBuilder text = new StringBuilder();
        for (int i = upTo(5); i > 0; i--) {
            text.append("wave ").append(upTo(25)).append(" ").append(from(1, 5)).append(" ").append(upTo(9)).append(";");
        }
        if (random.nextInt(3) > 0) {
            int first = upTo(20);
            text.append("tide ").append(first).append(" ").append(first + upTo(40)).append(" ").append(from(1, 5));
            text.append(" ").append(upTo(100)).append(";");
            int least = from(1, 4);
            text.append("reach ").append(least).append(" ").append(from(least, 8)).append(";");
        }
        if (random.nextBoolean()) {
            int least = upTo(9);
            text.append("level ").append(least).append(" ").append(least + upTo(9)).append(";");
        }
        if (random.nextBoolean()) {
            text.append("cut ").append(upTo(4)).append(";");
        }
        plain.sea(text.toString());
        Checks.due("sea of " + text, Checks.sea(keep, text.toString()) < 0 ? keep.fault(0) : 0, 0);
    }

    private void tellPlan() {
        StringBuilder text = new StringBuilder();
        for (int h = upTo(4); h > 0; h--) {
            text.append("hand");
            for (int a = from(1, 8); a > 0; a--) {
                text.append(act());
            }
            text.append(";");
        }
        plain.plan(text.toString());
        Checks.due("plan of " + text, Checks.plan(keep, text.toString()), plain.plans.size() - 1);
    }

    private String act() {
        String[] words = {" dig", " pack", " wet", " wall", " rest"};
        int kind = random.nextInt(12);
        if (kind == 0) {
            return " wall" + cell();
        }
        if (kind < 7) {
            String one = cell();
            String other = cell();
            return one.equals(other) ? " rest" : " dig" + one + other;
        }
        return kind == 7 ? words[4] : words[kind < 10 ? 1 : 2] + cell();
    }

    private void call(String name) {
        switch (random.nextInt(8)) {
            case 0 -> {
                int n = random.nextInt(6) == 0 ? upTo(60) : upTo(4);
                plain.pass(n);
                Checks.due(name + " pass", keep.pass(n), plain.now.minute);
            }
            case 1 -> {
                int plan = from(-1, plain.plans.size() - 1);
                plain.work(plain.now, plan);
                Checks.due(name + " work", keep.work(plan), 1);
            }
            case 2 -> keepOrTake(name);
            case 3 -> {
                int seed = random.nextInt() & Integer.MAX_VALUE;
                plain.now.chance = seed;
                Checks.due(name + " chance", keep.chance(seed), 1);
            }
            case 4 -> which(name);
            default -> ask(name);
        }
        dueAll(name);
    }

    private void keepOrTake(String name) {
        int slot = upTo(2);
        if (random.nextBoolean()) {
            slots[slot] = plain.now.copy();
            Checks.due(name + " keep", keep.keep(slot), plain.now.minute);
        } else if (slots[slot] == null) {
            Checks.due(name + " take", keep.take(slot), TideKeep.STATE);
        } else {
            plain.now = slots[slot].copy();
            Checks.due(name + " take", keep.take(slot), plain.now.minute);
        }
    }

    private void which(String name) {
        String told = plain.heights(from(-1, plain.waves.size() - 1));
        Checks.due(name + " which", Checks.which(keep, told), plain.which(told));
    }

    private void ask(String name) {
        int seed = upTo(50);
        int k = from(1, 4);
        int minutes = random.nextInt(8) == 0 ? from(1, 99) : from(1, 25);
        if (random.nextInt(5) == 0) {
            int n = from(1, random.nextInt(3) == 0 ? 30 : 6);
            Checks.due(name + " stand", keep.stand(n, k, minutes), plain.stand(n, k, minutes));
        }
        int flags = plain.flags.size();
        if (flags == 0) {
            Checks.due(name + " contest", keep.contest(0, k, minutes), TideKeep.STATE);
            return;
        }
        int rule = upTo(1);
        Checks.due(name + " contest", keep.contest(rule, k, minutes), plain.contest(rule, k, minutes));
        int flag = upTo(flags - 1);
        int plan = from(-1, plain.plans.size() - 1);
        Checks.due(name + " last", keep.last(flag, plan, seed, minutes), plain.last(flag, plan, seed, minutes, new int[0]));
        Checks.due(name + " pail", keep.pail(flag, seed, minutes), plain.row(flag, 2, seed, minutes));
        Checks.due(name + " again", keep.again(flag, seed, minutes), plain.again(flag, seed, minutes));
        if (random.nextInt(4) == 0) {
            int n = from(1, 4);
            int few = Math.min(minutes, 12);
            Checks.due(name + " row", keep.row(flag, n, seed, few), plain.row(flag, n, seed, few));
        }
        if (flags > 1) {
            int other = (flag + 1) % flags;
            boolean isLower = random.nextBoolean();
            Checks.due(name + " outlasts", keep.outlasts(flag, other, k, minutes, isLower),
                plain.outlasts(flag, other, k, minutes, isLower));
        }
    }

    private void dueAll(String name) {
        Plain.Beach now = plain.now;
        int sum = 0;
        for (int x = 0; x < plain.columns; x++) {
            for (int y = 0; y < plain.rows; y++) {
                String where = name + " cell " + x + " " + y;
                Checks.due(where + " HEIGHT", keep.cell(x, y, 0), now.height[x][y]);
                Checks.due(where + " WET", keep.cell(x, y, 1), now.wet[x][y]);
                Checks.due(where + " PACK", keep.cell(x, y, 2), now.pack[x][y]);
                Checks.due(where + " STONE", keep.cell(x, y, 3), now.stone[x][y] ? 1 : 0);
                Checks.due(where + " HOLDS", keep.cell(x, y, 4), now.holds(x, y));
                sum += now.height[x][y];
            }
        }
        int[] sums = {sum, now.lost, now.minute, now.slid, now.slidLatest, now.roundsLatest, now.came};
        for (int what = 0; what < sums.length; what++) {
            Checks.due(name + " sum(" + what + ")", keep.sum(what), sums[what]);
        }
        for (int k = 0; k < plain.flags.size(); k++) {
            Checks.due(name + " flag(" + k + ", 2)", keep.flag(k, 2), plain.flags.get(k)[2]);
            Checks.due(name + " flag(" + k + ", 3)", keep.flag(k, 3), now.fell[k]);
        }
        Checks.due(name + " told(23)", keep.told(23), now.plan);
    }
}
