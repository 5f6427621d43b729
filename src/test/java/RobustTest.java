import java.util.Random;

/** Calls with any arguments in any order: nothing is thrown, and no answer is below STATE. */
public final class RobustTest {
    private static final int[] EDGES = {Integer.MIN_VALUE, -2147483647, -5, -4, -3, -2, -1, 0, 1, 2, 3, 4, 5, 7, 8, 9,
        15, 16, 17, 30, 31, 40, 41, 63, 64, 65, 99, 100, 101, 360, 361, 999, 1000, 65535, Integer.MAX_VALUE};
    private static final String[] TEXTS = {"beach 8 8; sand 40; heap 40 0 0; heap 19 0 0; flag 0 0; hump 1 0 0; pack 0; dry 1;",
        "beach 1 1; flag 0 0;", "beach 1 8; flag 0 7; flag 0 0; stone 0 3; tire 1; fall 0;",
        "beach 8 1; flag 7 0; flag 0 0; flag 1 0; dry 1; damp 16; sand 40;", "stone 0 0; heap 30 1 1; flag 1 1; fall 0;",
        "wave 0 8 0; wave 1 8 0; wave 2 1 99; cut 9;", "tide 0 359 1 100; reach 1 8; level 0 99; cut 9;", "",
        "hand dig 0 0 0 7 wall 0 0;", "hand dig 7 0 0 0 wet 0 0 pack 0 0; hand wall 0 0 rest;", "hand wet 0 0;hand rest;",
        "sand 2; flag 0 0", "hand", "~~~~~~~~", "!", "zzzzzzzzzzzzzzz 1"};

    private final Random random;
    private TideKeep keep = new TideKeep();

    private RobustTest(long seed) {
        random = new Random(seed);
    }

    public static void main(String[] args) {
        int runs = args.length > 1 ? Integer.parseInt(args[1]) : 60;
        for (int run = 0; run < runs; run++) {
            RobustTest test = new RobustTest(run);
            for (int call = 0; call < 512; call++) {
                int answer = test.call(test.random.nextInt(40));
                Checks.due("run " + run + ", call " + call + ": at least STATE", answer >= TideKeep.STATE ? 1 : 0, 1);
            }
        }
        Checks.finish("RobustTest");
    }

    private int any() {
        return random.nextInt(5) == 0 ? random.nextInt() : EDGES[random.nextInt(EDGES.length)];
    }

    /** A small number most of the time, so that calls get through their bounds. */
    private int some() {
        return random.nextInt(6) == 0 ? any() : random.nextInt(4);
    }

    private int minutes() {
        return random.nextInt(4) == 0 ? any() : 1 + random.nextInt(12);
    }

    private int call(int which) {
        return which < 20 ? tell(which) : ask(which);
    }

    private int tell(int which) {
        switch (which) {
            case 0: return keep.feed(any(), any(), any(), any(), any());
            case 1: return keep.end(any());
            case 2: return Checks.beach(keep, TEXTS[random.nextInt(TEXTS.length)]);
            case 3: return Checks.sea(keep, TEXTS[random.nextInt(TEXTS.length)]);
            case 4: case 5: return Checks.plan(keep, TEXTS[random.nextInt(TEXTS.length)]);
            case 6: return keep.fault(some());
            case 7: return keep.told(any());
            case 8: return keep.wave(some(), some());
            case 9: return keep.act(some(), some() - 1, some() - 1, some());
            case 10: return keep.chance(any());
            case 11: return keep.work(some() - 1);
            case 12: case 13: return keep.pass(some());
            case 14: return keep.pass(any());
            case 15: return keep.cell(some(), some(), some());
            case 16: return keep.flag(some(), some());
            case 17: return keep.sum(any());
            case 18: return keep.keep(some());
            default: return keep.take(some());
        }
    }

    private int ask(int which) {
        switch (which) {
            case 20: return keep.holds(any(), any());
            case 21: return keep.high(any(), any(), any());
            case 22: return keep.spill(any(), any(), some(), some());
            case 23: return keep.trial(random.nextInt(9) == 0 ? any() : 0, any(), any(), some());
            case 24: return keep.right(random.nextInt(9) == 0 ? any() : 0, some(), some());
            case 25: return keep.humps(any(), some());
            case 26: return keep.next();
            case 27: return keep.last(some(), some() - 1, any(), minutes());
            case 28: return keep.pail(some(), any(), minutes());
            case 29: return keep.row(some(), some(), any(), minutes());
            case 30: return keep.again(some(), any(), minutes());
            case 31: return keep.stand(any(), some(), minutes());
            case 32: return keep.outlasts(some(), some(), some(), minutes(), random.nextBoolean());
            case 33: return keep.contest(some(), some(), minutes());
            case 34: return keep.which();
            case 35: return Checks.which(keep, "~".repeat(keep.told(0) * keep.told(1)));
            case 36: return keep.join(any(), any(), any(), any(), any(), some());
            case 37: return keep.join(1 + random.nextInt(99), 1 + random.nextInt(99), 1 + random.nextInt(50),
                1 + random.nextInt(50), 1 + random.nextInt(100), random.nextInt(2));
            case 38: return keep.count(some());
            default: return keep.contest(random.nextInt(2), 1 + random.nextInt(9), minutes());
        }
    }
}
