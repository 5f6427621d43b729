import java.util.Arrays;
import java.util.Random;

/** Promises 26 to 35: what would be. */
public final class WouldBeTest {
    // A tower's middle at y 1 that falls when it dries, by a flag that falls at once.
    private static final String DRYING = "beach 1 2; sand 1; heap 2 0 1; flag 0 1; fall 0; damp 2; dry 2;"
        + " hump 3 3 1; pack 0;";
    // A flag at y 0 of which the wave of minute 1 cuts a unit.
    private static final String CUT = "beach 1 2; sand 3; flag 0 0; fall 0; damp 8; dry 60;"
        + " hump 8 20 0; pack 0;";
    private static final String CUTTING = "wave 1 1 0; cut 1;";

    public static void main(String[] args) {
        last();
        pailAndRow();
        rowsDoAllWorks();
        again();
        stand();
        outlasts();
        contest();
        which();
        join();
        count();
        nothingChanges();
        Checks.finish("WouldBeTest");
    }

    private static void last() {
        TideKeep keep = Checks.on("beach 1 2; sand 5; fall 0; flag 0 0; hump 8 20 0; damp 8; dry 60;", "wave 3 1 0;");
        Checks.plan(keep, "hand wall 0 0;");
        Checks.plan(keep, "hand rest rest rest wall 0 0;");
        Checks.plan(keep, "hand rest rest rest rest wall 0 0;");
        int[] want = {1, 2, 3, 3, 3, 3};
        for (int minutes = 1; minutes <= 6; minutes++) {
            Checks.due("last(0, NONE, 1, " + minutes + ")", keep.last(0, -1, 1, minutes), want[minutes - 1]);
        }
        Checks.due("99 minutes", keep.last(0, -1, 1, 99), 3);
        Checks.due("by a wall", keep.last(0, 0, 1, 99), 99);
        Checks.due("by a wall in time", keep.last(0, 1, 1, 99), 99);
        Checks.due("by a wall too late", keep.last(0, 2, 1, 99), 3);
        keep.work(0);
        Checks.due("the plan that holds does nothing", keep.last(0, -1, 1, 99), 3);
        keep.work(2);
        keep.pass(2);
        Checks.due("from its first acts", keep.last(0, 1, 1, 99), 1);
        Checks.due("it goes on from now", keep.last(0, -1, 0, 99), 1);
        keep.pass(2);
        Checks.due("it fell already", keep.last(0, -1, 2147483647, 99), 0);
        int[][] wrong = {{1, -1, 1, 5}, {-1, -1, 1, 5}, {0, 3, 1, 5}, {0, -2, 1, 5}, {0, -1, -1, 5}, {0, -1, 1, 0},
            {0, -1, 1, 100}};
        for (int[] call : wrong) {
            Checks.due("wrong last", keep.last(call[0], call[1], call[2], call[3]), TideKeep.RANGE);
        }
        lastBySeeds();
    }

    private static void lastBySeeds() {
        TideKeep keep = Checks.on("beach 1 1; sand 1; fall 0; flag 0 0;", "tide 0 300 1 20; reach 1 1; level 0 0;");
        for (int seed : new int[] {0, 1, 2, 3, 4, 5, 2147483647}) {
            long chance = Checks.step(seed);
            int last = 0;
            while (last < 20 && chance / 65536 % 100 >= 20) {
                last++;
                chance = Checks.step(chance);
            }
            Checks.due("last by seed " + seed, keep.last(0, -1, seed, 20), last);
        }
    }

    private static void pailAndRow() {
        TideKeep keep = Checks.on(CUT, CUTTING);
        Checks.due("without", keep.last(0, -1, 1, 9), 1);
        Checks.due("pail", keep.pail(0, 1, 9), 2);
        Checks.due("row of 1", keep.row(0, 1, 1, 9), 2);
        Checks.due("row of 2", keep.row(0, 2, 1, 9), 2);
        Checks.due("row of 3", keep.row(0, 3, 1, 9), 20);
        Checks.due("row of 4", keep.row(0, 4, 1, 9), 200);
        Checks.due("by one minute all are alike", keep.pail(0, 1, 1), 0);
        keep.pass(1);
        Checks.due("pail a minute later", keep.pail(0, 1, 9), 20);
        keep.pass(1);
        Checks.due("pail for a fallen flag", keep.pail(0, 1, 9), 0);
        int[][] wrong = {{1, 1, 5}, {-1, 1, 5}, {0, -1, 5}, {0, 1, 0}, {0, 1, 100}};
        for (int[] call : wrong) {
            Checks.due("wrong pail", keep.pail(call[0], call[1], call[2]), TideKeep.RANGE);
            Checks.due("wrong row", keep.row(call[0], 2, call[1], call[2]), TideKeep.RANGE);
        }
        Checks.due("row of 0", keep.row(0, 0, 1, 5), TideKeep.RANGE);
        Checks.due("row of 5", keep.row(0, 5, 1, 5), TideKeep.RANGE);
        TideKeep dry = Checks.on(DRYING, "");
        Checks.due("a wall keeps what is behind it", dry.row(0, 1, 1, 99), 0);
    }

    private static void rowsDoAllWorks() {
        // The only work that helps is a dig from the front, as a wave cuts twice in minute 0.
        TideKeep front = Checks.on("beach 1 2; sand 2; heap 2 0 1; flag 0 1; fall 1; damp 8; dry 60; hump 8 20 0;",
            "wave 0 2 3; wave 0 2 3; cut 1;");
        Checks.due("a wall", front.row(0, 1, 1, 5), 0);
        TideKeep stony = Checks.on("beach 1 3; sand 0; heap 5 0 1; flag 0 1; fall 0; damp 4; dry 60; hump 8 8 1; pack 0;",
            "");
        // HEIGHT 5 by HOLDS 5 holds; wet to 8 it holds 9; a dig from bare ground does nothing.
        Checks.due("all is well", stony.row(0, 4, 1, 9), 0);
        TideKeep wetted = Checks.on("beach 1 2; sand 1; heap 9 0 1; flag 0 1; fall 0; damp 4; dry 60; hump 8 8 1;"
            + " pack 0; stone 0 0;", "");
        Checks.due("no place to slide to", wetted.row(0, 2, 1, 9), 0);
        TideKeep wetting = Checks.on("beach 2 1; sand 1; heap 9 0 0; flag 0 0; fall 0; damp 4; dry 60; hump 8 8 1;"
            + " pack 0;", "");
        Checks.due("only a wetting helps", wetting.row(0, 1, 1, 9), 3);
        Checks.due("then all is well", wetting.pail(0, 1, 9), 30);
    }

    private static void again() {
        TideKeep keep = Checks.on(DRYING, "");
        Checks.due("without", keep.last(0, -1, 1, 99), 3);
        Checks.due("too wet at 0, then the least", keep.again(0, 1, 99), 1);
        Checks.due("as long", keep.again(0, 1, 3), TideKeep.NONE);
        Checks.due("a minute longer", keep.again(0, 1, 4), 1);
        keep.pass(3);
        Checks.due("in the minute in which it would fall", keep.again(0, 1, 9), 0);
        keep.pass(1);
        Checks.due("fallen", keep.again(0, 1, 9), TideKeep.NONE);
        int[][] wrong = {{1, 1, 5}, {-1, 1, 5}, {0, -1, 5}, {0, 1, 0}, {0, 1, 100}};
        for (int[] call : wrong) {
            Checks.due("wrong again", keep.again(call[0], call[1], call[2]), TideKeep.RANGE);
        }
    }

    private static void stand() {
        TideKeep keep = Checks.on("beach 2 3; sand 1; stone 0 0; fall 0; damp 8; dry 60; hump 8 20 0;",
            "wave 2 2 1; cut 1;");
        // At x 1 the wave cuts at y 0 or at y 1; at x 0 it soaks what is behind the stone, which slides then.
        Checks.due("out of reach", keep.stand(3, 1, 9), 4);
        Checks.due("the same by nine seeds", keep.stand(3, 9, 9), 4);
        Checks.due("all are alike: the least without a stone", keep.stand(3, 1, 2), 1);
        Checks.due("a tower that slides", keep.stand(30, 1, 2), 1);
        int[][] wrong = {{0, 1, 3}, {31, 1, 3}, {1, 0, 3}, {1, 10, 3}, {1, 1, 0}, {1, 1, 100}};
        for (int[] call : wrong) {
            Checks.due("wrong stand", keep.stand(call[0], call[1], call[2]), TideKeep.RANGE);
        }
        TideKeep stones = Checks.on("beach 2 1; stone 0 0; stone 1 0;", "");
        Checks.due("stones everywhere", stones.stand(1, 1, 1), TideKeep.NONE);
        Checks.due("wrong there", stones.stand(31, 1, 1), TideKeep.RANGE);
        TideKeep fall = Checks.on("beach 2 1; sand 1; fall 2; damp 8; dry 60; hump 8 0 0;", "");
        // 1 and 3 by HOLDS 1: one goes, then they hold: 2 below is not less than fall lets it.
        Checks.due("less fall", fall.stand(2, 1, 9), 0);
    }

    private static void outlasts() {
        TideKeep keep = Checks.on("beach 2 1; sand 3; heap 3 1 0; flag 0 0; flag 1 0; fall 0; damp 8; dry 60;"
            + " hump 8 20 0;", "tide 0 0 1 50; reach 1 1; level 4 4;");
        for (int k = 1; k <= 9; k++) {
            int upper = 0;
            for (int seed = 1; seed <= k; seed++) {
                upper += Checks.step(seed) / 65536 % 100 < 50 ? 1 : 0;
            }
            int shared = k;
            while (upper % shared != 0 || k % shared != 0) {
                shared--;
            }
            Checks.due("upper of " + k, keep.outlasts(0, 1, k, 1, false), upper / shared);
            Checks.due("lower of " + k, keep.outlasts(0, 1, k, 1, true), k / shared);
            Checks.due("the other way", keep.outlasts(1, 0, k, 1, false), 0);
            Checks.due("the other way", keep.outlasts(1, 0, k, 1, true), 1);
        }
        Checks.sea(keep, "wave 0 1 4;");
        Checks.due("in all", keep.outlasts(0, 1, 8, 1, false) * 10 + keep.outlasts(0, 1, 8, 1, true), 11);
        int[][] wrong = {{0, 0, 1, 1}, {0, 2, 1, 1}, {2, 0, 1, 1}, {-1, 0, 1, 1}, {0, -1, 1, 1}, {0, 1, 0, 1},
            {0, 1, 10, 1}, {0, 1, 1, 0}, {0, 1, 1, 100}};
        for (int[] call : wrong) {
            Checks.due("wrong outlasts", keep.outlasts(call[0], call[1], call[2], call[3], false), TideKeep.RANGE);
            Checks.due("wrong outlasts", keep.outlasts(call[0], call[1], call[2], call[3], true), TideKeep.RANGE);
        }
    }

    private static void contest() {
        TideKeep keep = Checks.on(CUT, CUTTING);
        Checks.due("no plans", keep.contest(0, 1, 5), TideKeep.NONE);
        Checks.due("no plans", keep.contest(1, 1, 5), TideKeep.NONE);
        Checks.plan(keep, "hand rest;");
        Checks.due("one plan", keep.contest(0, 1, 5), 0);
        Checks.plan(keep, "hand dig 0 0 0 1 dig 0 1 0 0 dig 0 1 0 0 dig 0 1 0 0;");
        Checks.plan(keep, "hand rest dig 0 1 0 0 rest rest;");
        Checks.due("the last that stands", keep.contest(0, 1, 5), 2);
        Checks.due("in a minute the first lasts as well", keep.contest(0, 9, 1), 0);
        // HEIGHTS behind each minute: plan 0: 3, 2, 2, 2; plan 1: 2, 2, 3, 4 (its flag falls at once); plan 2: 3, 3, 3, 3.
        Checks.due("behind a minute", keep.contest(1, 3, 1), 0);
        Checks.due("behind two", keep.contest(1, 1, 2), 2);
        Checks.due("behind three, of alike ones the least", keep.contest(1, 1, 3), 1);
        Checks.due("behind four", keep.contest(1, 9, 4), 1);
        int[][] wrong = {{-1, 1, 5}, {2, 1, 5}, {0, 0, 5}, {0, 10, 5}, {0, 1, 0}, {0, 1, 100}};
        for (int[] call : wrong) {
            Checks.due("wrong contest", keep.contest(call[0], call[1], call[2]), TideKeep.RANGE);
        }
        TideKeep bare = new TideKeep();
        Checks.due("no flags, no plans", bare.contest(0, 1, 5), TideKeep.STATE);
        Checks.due("wrong ahead of all", bare.contest(2, 1, 5), TideKeep.RANGE);
        Checks.plan(bare, "hand rest;");
        Checks.due("no flags", bare.contest(1, 1, 5), TideKeep.STATE);
    }

    private static void which() {
        TideKeep keep = Checks.on("beach 2 2; sand 3; hump 4 20 0; pack 0;",
            "wave 50 1 2; wave 0 2 3; wave 7 2 2; wave 9 1 9; cut 1;");
        Checks.due("cut at y 0", Checks.which(keep, "\"\"##"), 5);
        Checks.due("nothing cut", Checks.which(keep, "####"), 10);
        Checks.due("none", Checks.which(keep, "!!##"), 0);
        Checks.due("the tape is emptied", keep.count(4), 0);
        Checks.due("too short", Checks.which(keep, "###"), TideKeep.NONE);
        Checks.due("the tape is emptied", keep.count(4), 0);
        Checks.due("too long", Checks.which(keep, "#####"), TideKeep.NONE);
        Checks.due("a byte below", Checks.which(keep, "\u001f###"), TideKeep.NONE);
        Checks.due("a byte above", Checks.which(keep, "###\u007f"), TideKeep.NONE);
        Checks.due("the greatest byte", Checks.which(keep, "###~"), 0);
        Checks.due("a blank", Checks.which(keep, "    "), 0);
        keep.pass(51);
        Checks.due("how things are now", Checks.which(keep, "####"), 0);
        Checks.due("nothing goes on", keep.sum(2), 51);
        TideKeep high = Checks.on("beach 1 1; sand 40; heap 40 0 0; heap 15 0 0; hump 1 0 0;", "wave 0 1 0; cut 0;");
        Checks.due("a height of 95", Checks.which(high, "~"), 0);
        Checks.sea(high, "wave 0 1 0; cut 1;");
        Checks.due("a height of 94", Checks.which(high, "~"), 1);
        TideKeep slides = Checks.on("beach 2 1; sand 1; heap 2 0 0; hump 4 20 0; damp 4; pack 0;", "wave 5 1 9;");
        Checks.due("slides behind it", Checks.which(slides, "\"\""), 1);
        TideKeep none = Checks.on("beach 1 1; sand 1;", "");
        Checks.due("no waves", Checks.which(none, "!"), 0);
    }

    private static void join() {
        int[][] calls = {{5, 2, 2, 3, 100}, {5, 2, 2, 3, 50}, {1, 1, 1, 1, 1}, {99, 1, 50, 50, 100}, {99, 1, 1, 1, 1},
            {99, 99, 1, 50, 100}, {99, 50, 7, 3, 80}, {30, 7, 2, 9, 33}, {12, 4, 5, 1, 60}, {40, 3, 9, 4, 99}};
        for (int[] call : calls) {
            dueJoin(call);
        }
        drawnJoins();
        Checks.due("by hand", keepJoin(new int[] {1, 1, 1, 1, 1}, 0), 1);
        Checks.due("by hand", keepJoin(new int[] {1, 1, 1, 1, 1}, 1), 1);
        int[][] wrong = {{0, 1, 1, 1, 1, 0}, {100, 1, 1, 1, 1, 0}, {1, 0, 1, 1, 1, 0}, {1, 100, 1, 1, 1, 0},
            {1, 1, 0, 1, 1, 0}, {1, 1, 51, 1, 1, 0}, {1, 1, 1, 0, 1, 0}, {1, 1, 1, 51, 1, 0}, {1, 1, 1, 1, 0, 0},
            {1, 1, 1, 1, 101, 0}, {1, 1, 1, 1, 1, -1}, {1, 1, 1, 1, 1, 2}};
        for (int[] call : wrong) {
            Checks.due("wrong join", keepJoin(call, call[5]), TideKeep.RANGE);
        }
    }

    private static void drawnJoins() {
        Random random = new Random(3);
        for (int i = 0; i < 4000; i++) {
            boolean isFew = i % 2 == 0;
            dueJoin(new int[] {1 + random.nextInt(99), 1 + random.nextInt(isFew ? 9 : 99), 1 + random.nextInt(isFew ? 9 : 50),
                1 + random.nextInt(isFew ? 9 : 50), 1 + random.nextInt(100)});
        }
    }

    private static void dueJoin(int[] call) {
        int soonest = Integer.MAX_VALUE;
        int best = -1;
        for (int j = 0; j < 100; j++) {
            int done = doneFrom(j, call);
            if (done < soonest) {
                soonest = done;
                best = j;
            }
        }
        Checks.due("join's j of " + Arrays.toString(call), keepJoin(call, 0), best);
        Checks.due("join's end of " + Arrays.toString(call), keepJoin(call, 1), soonest);
    }

    private static int keepJoin(int[] call, int what) {
        return new TideKeep().join(call[0], call[1], call[2], call[3], call[4], what);
    }

    private static int doneFrom(int j, int[] call) {
        int tower = call[0];
        for (int side = call[0] - call[1]; side > 0; side -= call[1]) {
            tower += side + side;
        }
        int left = Math.max(0, tower - j * call[2]) + Math.max(0, tower - j * call[3]);
        double minutes = Math.ceil(left * 100.0 / ((call[2] + call[3]) * call[4]));
        return j + (int) minutes;
    }

    private static void count() {
        TideKeep keep = Checks.on("sand 1; dry 2;", "cut 1;");
        keep.trial(1, 1, 1, 1);
        keep.trial(1, 1, 1, 1);
        keep.right(1, 1, 0);
        keep.feed(0, 0, 0, 0, 0);
        int[] want = {2, 1, 2, 1, 20};
        for (int what = 0; what < want.length; what++) {
            Checks.due("count(" + what + ")", keep.count(what), want[what]);
        }
        Checks.due("count(5)", keep.count(5), TideKeep.NONE);
        Checks.due("count(-1)", keep.count(-1), TideKeep.NONE);
    }

    private static void nothingChanges() {
        TideKeep keep = Checks.on("beach 3 3; sand 2; heap 9 1 1; flag 1 1; flag 0 0; fall 2; dry 2; pack 1;",
            "wave 2 3 4; tide 0 50 2 70; reach 1 3; level 0 5;");
        Checks.plan(keep, "hand dig 0 0 1 1 wet 1 1 wall 1 0;");
        keep.work(0);
        keep.pass(1);
        keep.keep(0);
        keep.pass(9);
        String want = Checks.heights(keep) + keep.sum(1) + keep.sum(3) + keep.sum(6);
        keep.take(0);
        keep.last(0, 0, 5, 30);
        keep.pail(0, 5, 30);
        keep.row(1, 3, 5, 30);
        keep.again(0, 5, 30);
        keep.stand(4, 3, 30);
        keep.outlasts(0, 1, 3, 30, true);
        keep.contest(1, 3, 30);
        Checks.which(keep, "#########");
        Checks.due("the minute", keep.sum(2), 1);
        keep.pass(9);
        String got = Checks.heights(keep) + keep.sum(1) + keep.sum(3) + keep.sum(6);
        Checks.due("trials change nothing", got.equals(want) ? 1 : 0, 1);
    }
}
