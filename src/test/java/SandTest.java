import java.util.ArrayList;
import java.util.Arrays;
import java.util.List;
import java.util.Random;

/** Promises 19 to 25: sand. */
public final class SandTest {
    public static void main(String[] args) {
        holds();
        high();
        spill();
        trialsAndRights();
        rightsByStep();
        humps();
        next();
        askedAndTold();
        Checks.finish("SandTest");
    }

    private static void holds() {
        TideKeep keep = Checks.on("hump 5 9 2; pack 3;", "");
        int[] strength = {0, 1, 3, 5, 7, 9, 7, 5, 3, 1, 0, 0, 0, 0, 0, 0, 0};
        for (int wet = 0; wet <= 16; wet++) {
            for (int pack = 0; pack <= 4; pack++) {
                Checks.due("holds(" + wet + ", " + pack + ")", keep.holds(wet, pack), 1 + strength[wet] + 3 * pack);
            }
        }
        TideKeep flat = Checks.on("hump 5 9 0; pack 0;", "");
        Checks.due("at 0", flat.holds(0, 4), 1);
        Checks.due("at 1", flat.holds(1, 4), 10);
        Checks.due("at 15", flat.holds(15, 0), 10);
        Checks.due("at 16", flat.holds(16, 0), 1);
        int[][] wrong = {{-1, 0}, {17, 0}, {0, -1}, {0, 5}};
        for (int[] call : wrong) {
            Checks.due("wrong holds", keep.holds(call[0], call[1]), TideKeep.RANGE);
        }
    }

    private static void high() {
        TideKeep keep = Checks.on("hump 5 9 2; pack 3;", "");
        for (int b = 1; b <= 40; b++) {
            int middle = (b - 1) / 2;
            int away = Math.min(middle + 1, b - middle);
            Checks.due("high(" + b + ", 5, 1)", keep.high(b, 5, 1), away * 13);
            Checks.due("high(" + b + ", 0, 0)", keep.high(b, 0, 0), away);
        }
        int[][] wrong = {{0, 0, 0}, {41, 0, 0}, {1, 17, 0}, {1, -1, 0}, {1, 0, 5}, {1, 0, -1}};
        for (int[] call : wrong) {
            Checks.due("wrong high", keep.high(call[0], call[1], call[2]), TideKeep.RANGE);
        }
    }

    private static void spill() {
        TideKeep keep = Checks.on("hump 8 20 0; pack 1;", "");
        for (int n = 0; n <= 60; n++) {
            for (int pack = 0; pack <= 4; pack++) {
                dueSpill(keep, n, 0, pack, 1 + pack);
            }
            dueSpill(keep, n, 8, 0, 21);
        }
        int[][] wrong = {{-1, 0, 0, 0}, {61, 0, 0, 0}, {1, -1, 0, 0}, {1, 17, 0, 0}, {1, 0, -1, 0}, {1, 0, 5, 0},
            {1, 0, 0, -1}, {1, 0, 0, 9}};
        for (int[] call : wrong) {
            Checks.due("wrong spill", keep.spill(call[0], call[1], call[2], call[3]), TideKeep.RANGE);
        }
        Checks.due("the sand stays", keep.sum(0), 150);
        // Three units of HOLDS 1: the first goes left, as the least number of alike ones.
        int[] three = {0, 0, 0, 1, 2, 0, 0, 0, 0};
        int[] four = {0, 0, 0, 1, 2, 1, 0, 0, 0};
        for (int i = 0; i < 9; i++) {
            Checks.due("spill of 3", keep.spill(3, 0, 0, i), i == 4 ? 1 : i == 3 || i == 5 ? 1 : 0);
            Checks.due("spill of 4", keep.spill(4, 0, 0, i), four[i]);
            Checks.due("spill of 3 that holds", keep.spill(3, 0, 1, i), i == 4 ? 2 : three[i]);
        }
    }

    private static void dueSpill(TideKeep keep, int n, int wet, int pack, int holds) {
        int[] want = settled(n, holds);
        for (int i = 0; i < 9; i++) {
            Checks.due("spill(" + n + ", " + wet + ", " + pack + ", " + i + ")", keep.spill(n, wet, pack, i), want[i]);
        }
    }

    private static int[] settled(int n, int holds) {
        int[] row = new int[9];
        row[4] = n;
        boolean goes = true;
        while (goes) {
            goes = false;
            for (int i = 0; i < 9; i++) {
                int left = i > 0 ? row[i - 1] : Integer.MAX_VALUE;
                int right = i < 8 ? row[i + 1] : Integer.MAX_VALUE;
                int low = Math.min(left, right);
                if (row[i] > low + holds) {
                    row[i]--;
                    row[left == low ? i - 1 : i + 1]++;
                    goes = true;
                }
            }
        }
        return row;
    }

    private static void trialsAndRights() {
        TideKeep keep = new TideKeep();
        int[][] wrong = {{-1, 5, 5, 1}, {1000, 5, 5, 1}, {0, 0, 5, 1}, {0, 16, 5, 1}, {0, 5, 0, 1}, {0, 5, 31, 1},
            {0, 5, 5, 2}, {0, 5, 5, -1}};
        for (int[] call : wrong) {
            Checks.due("wrong trial", keep.trial(call[0], call[1], call[2], call[3]), TideKeep.RANGE);
        }
        Checks.due("right of none", keep.right(0, 0, 1), TideKeep.RANGE);
        Checks.due("none is tried", keep.count(2), 0);
        for (int i = 0; i < 16; i++) {
            Checks.due("trial", keep.trial(i / 2, 15, 30, 0), i);
        }
        Checks.due("the 17th", keep.trial(9, 1, 1, 1), TideKeep.FULL);
        Checks.due("the 17th, wrong", keep.trial(9, 0, 1, 1), TideKeep.RANGE);
        Checks.due("a step that falls", keep.right(6, 0, 1), TideKeep.RANGE);
        Checks.due("right", keep.right(7, 0, 1), 1);
        Checks.due("right", keep.right(7, 15, 1), 1);
        Checks.due("right again", keep.right(8, 0, 1), 2);
        int[][] wrongRights = {{7, 0, 1}, {1000, 0, 1}, {8, -1, 1}, {8, 16, 1}, {8, 0, 2}, {8, 0, -1}};
        for (int[] call : wrongRights) {
            Checks.due("wrong right", keep.right(call[0], call[1], call[2]), TideKeep.RANGE);
        }
        for (int i = 0; i < 17; i++) {
            Checks.due("right", keep.right(999, 3, 1), i + 1);
        }
        Checks.due("the 21st", keep.right(999, 3, 1), TideKeep.FULL);
        Checks.due("the 21st, wrong", keep.right(998, 3, 1), TideKeep.RANGE);
        Checks.due("tried", keep.count(2), 16);
        Checks.due("puttings right", keep.count(3), 20);
        TideKeep steps = new TideKeep();
        steps.trial(5, 1, 1, 1);
        steps.right(9, 0, 1);
        Checks.due("ahead of a right's step", steps.trial(8, 1, 1, 1), TideKeep.RANGE);
        Checks.due("at a right's step", steps.trial(9, 1, 1, 1), 1);
    }

    private static void rightsByStep() {
        TideKeep keep = new TideKeep();
        keep.trial(10, 5, 21, 1);
        keep.right(20, 0, 0);
        keep.right(30, 0, 1);
        int[] steps = {0, 9, 10, 19, 20, 29, 30, 999};
        int[] fit = {1575, 1575, 5, 5, 1570, 1570, 5, 5};
        for (int i = 0; i < steps.length; i++) {
            Checks.due("humps as known at " + steps[i], keep.humps(steps[i], 0), fit[i]);
        }
        keep.trial(30, 5, 21, 0);
        int[] none = {0, -1, -1, -1, -1};
        for (int what = 0; what < 5; what++) {
            Checks.due("none fits, " + what, keep.humps(30, what), none[what]);
        }
        Checks.due("next of none", keep.next(), TideKeep.NONE);
        keep.right(30, 0, 0);
        Checks.due("the latest of a step", keep.humps(30, 0), 1570);
        int[][] wrong = {{-1, 0}, {1000, 0}, {0, -1}, {0, 5}};
        for (int[] call : wrong) {
            Checks.due("wrong humps", keep.humps(call[0], call[1]), TideKeep.RANGE);
        }
    }

    private static List<int[]> fitting(int[][] tried) {
        List<int[]> fit = new ArrayList<>();
        for (int best = 1; best <= 15; best++) {
            for (int top = 0; top <= 20; top++) {
                for (int loss = 1; loss <= 5; loss++) {
                    boolean fits = true;
                    for (int[] one : tried) {
                        fits &= stands(best, top, loss, one[0], one[1]) == (one[2] == 1);
                    }
                    if (fits) {
                        fit.add(new int[] {best, top, loss});
                    }
                }
            }
        }
        return fit;
    }

    private static boolean stands(int best, int top, int loss, int wet, int steep) {
        return steep <= 1 + Math.max(0, top - loss * Math.abs(wet - best));
    }

    private static int nextOf(List<int[]> fit) {
        int least = fit.size();
        int want = TideKeep.NONE;
        for (int wet = 1; wet <= 15; wet++) {
            for (int steep = 1; steep <= 30; steep++) {
                int stand = 0;
                for (int[] hump : fit) {
                    stand += stands(hump[0], hump[1], hump[2], wet, steep) ? 1 : 0;
                }
                int greater = Math.max(stand, fit.size() - stand);
                if (greater < least) {
                    least = greater;
                    want = 100 * wet + steep;
                }
            }
        }
        return want;
    }

    /** One asks what parts best and is told by a hidden hump, now and then by a drawn answer that is put right. */
    private static void askedAndTold() {
        Random random = new Random(8);
        for (int run = 0; run < 40; run++) {
            TideKeep keep = new TideKeep();
            int[] hump = {1 + random.nextInt(15), random.nextInt(21), 1 + random.nextInt(5)};
            int[][] tried = new int[0][];
            for (int i = 0; i < 12; i++) {
                List<int[]> fit = fitting(tried);
                int question = nextOf(fit);
                Checks.due("humps(" + i + ", 0)", keep.humps(i, 0), fit.size());
                Checks.due("next()", keep.next(), question);
                boolean isDrawn = question == TideKeep.NONE || random.nextInt(4) == 0;
                int wet = isDrawn ? 1 + random.nextInt(15) : question / 100;
                int steep = isDrawn ? 1 + random.nextInt(22) : question % 100;
                int stood = stands(hump[0], hump[1], hump[2], wet, steep) ? 1 : 0;
                boolean isWrong = random.nextInt(6) == 0;
                Checks.due("trial", keep.trial(i, wet, steep, isWrong ? 1 - stood : stood), i);
                tried = Arrays.copyOf(tried, i + 1);
                tried[i] = new int[] {wet, steep, isWrong ? 1 - stood : stood};
                if (isWrong && random.nextBoolean()) {
                    Checks.due("humps before", keep.humps(i, 0), fitting(tried).size());
                    Checks.due("right", keep.right(i, i, stood), 1);
                    tried[i][2] = stood;
                }
            }
        }
    }

    private static final int[][][] TRIED = {{}, {{3, 2, 0}}, {{3, 2, 1}}, {{8, 10, 1}, {4, 6, 0}},
        {{8, 10, 1}, {4, 6, 0}, {12, 6, 0}, {8, 14, 0}, {9, 9, 1}}, {{7, 21, 1}}, {{1, 30, 0}, {15, 1, 1}},
        {{6, 12, 1}, {6, 13, 0}, {5, 11, 1}, {5, 12, 0}, {7, 11, 1}, {7, 12, 0}, {4, 10, 1}, {4, 11, 0}},
        {{6, 12, 1}, {7, 12, 0}, {6, 12, 0}},
        {{1, 2, 0}, {2, 2, 0}, {3, 2, 0}, {4, 2, 0}, {5, 2, 0}, {6, 2, 0}, {7, 2, 0}, {8, 2, 0}, {9, 2, 0}, {10, 2, 0},
            {11, 2, 0}}};

    private static void humps() {
        for (int[][] tried : TRIED) {
            TideKeep keep = told(tried);
            List<int[]> fit = fitting(tried);
            int[] want = {fit.size(), 99, -1, 99, -1};
            for (int[] hump : fit) {
                want[1] = Math.min(want[1], hump[0]);
                want[2] = Math.max(want[2], hump[0]);
                want[3] = Math.min(want[3], hump[1]);
                want[4] = Math.max(want[4], hump[1]);
            }
            for (int what = 0; what < 5; what++) {
                want[what] = fit.isEmpty() && what > 0 ? TideKeep.NONE : want[what];
                Checks.due("humps(999, " + what + ")", keep.humps(999, what), want[what]);
            }
        }
    }

    private static TideKeep told(int[][] tried) {
        TideKeep keep = new TideKeep();
        for (int i = 0; i < tried.length; i++) {
            Checks.due("trial", keep.trial(60 * i, tried[i][0], tried[i][1], tried[i][2]), i);
        }
        return keep;
    }

    private static void next() {
        for (int[][] tried : TRIED) {
            Checks.due("next()", told(tried).next(), nextOf(fitting(tried)));
        }
        TideKeep one = told(TRIED[7]);
        Checks.due("one hump is left", one.humps(999, 0), 1);
        Checks.due("nothing parts it", one.next(), TideKeep.NONE);
    }
}
