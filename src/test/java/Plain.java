import java.util.ArrayList;
import java.util.Arrays;
import java.util.List;

/**
 * The document once more, told as plainly as can be: by x and y, without anything left out for speed.
 * Takes only texts without a fault.
 */
final class Plain {
    int columns = 5;
    int rows = 5;
    int sand = 6;
    int packing = 2;
    int dry = 10;
    int damp = 4;
    int fall = 1;
    int tire = 0;
    int[] hump = {4, 6, 1};
    List<int[]> flags = new ArrayList<>();
    List<int[]> waves = new ArrayList<>();
    int[] tide;
    int[] reach = {1, 3};
    int[] level = {4, 8};
    int cut = 1;
    List<List<List<int[]>>> plans = new ArrayList<>();
    Beach now = new Beach();

    /** How things are. */
    final class Beach implements Cloneable {
        int[][] height = new int[9][9];
        int[][] wet = new int[9][9];
        int[][] pack = new int[9][9];
        boolean[][] stone = new boolean[9][9];
        int[] fell = {-1, -1, -1};
        int plan = -1;
        int[] done = new int[4];
        int[] rested = new int[4];
        long chance = 1;
        int minute;
        int lost;
        int slid;
        int slidLatest;
        int roundsLatest;
        int came;

        Beach copy() {
            try {
                Beach copy = (Beach) clone();
                for (int x = 0; x < 9; x++) {
                    if (x == 0) {
                        copy.height = height.clone();
                        copy.wet = wet.clone();
                        copy.pack = pack.clone();
                        copy.stone = stone.clone();
                    }
                    copy.height[x] = height[x].clone();
                    copy.wet[x] = wet[x].clone();
                    copy.pack[x] = pack[x].clone();
                    copy.stone[x] = stone[x].clone();
                }
                copy.fell = fell.clone();
                copy.done = done.clone();
                copy.rested = rested.clone();
                return copy;
            } catch (CloneNotSupportedException e) {
                throw new IllegalStateException(e);
            }
        }

        int holds(int x, int y) {
            return Plain.this.holds(wet[x][y], pack[x][y]);
        }

        void unitGoes(int x, int y, int tx, int ty) {
            wet[tx][ty] = (wet[tx][ty] * height[tx][ty] + wet[x][y]) / (height[tx][ty] + 1);
            pack[tx][ty] = 0;
            height[x][y]--;
            height[tx][ty]++;
        }

        void act(int[] act) {
            int x = act[1];
            int y = act[2];
            if (act[0] == 0) {
                if (height[x][y] > 0 && !stone[x][y] && !stone[act[3]][act[4]]) {
                    unitGoes(x, y, act[3], act[4]);
                    pack[x][y] = 0;
                }
            } else if (act[0] == 1) {
                pack[x][y] = Math.min(4, pack[x][y] + 1);
            } else if (act[0] == 2) {
                wet[x][y] = Math.min(15, wet[x][y] + 4);
            } else if (act[0] == 3) {
                stone[x][y] = true;
            }
        }

        void hands(List<List<int[]>> hands) {
            for (int h = 0; h < hands.size(); h++) {
                if (tire > 0 && done[h] > 0 && done[h] % tire == 0 && rested[h] < done[h] / tire) {
                    rested[h]++;
                } else {
                    act(hands.get(h).get(done[h] % hands.get(h).size()));
                    done[h]++;
                }
            }
        }

        int draw(int n) {
            chance = Checks.step(chance);
            return (int) (chance / 65536 % n);
        }

        void wave(int wide, int high) {
            came++;
            for (int x = 0; x < columns; x++) {
                boolean goesOn = true;
                for (int y = 0; y < wide && y < rows && goesOn; y++) {
                    if (stone[x][y]) {
                        goesOn = false;
                        if (y + 1 < rows) {
                            wet[x][y + 1] = 16;
                        }
                    } else {
                        wet[x][y] = 16;
                        if (height[x][y] > high) {
                            goesOn = false;
                            int off = Math.min(cut, height[x][y]);
                            height[x][y] -= off;
                            lost += off;
                        }
                    }
                }
            }
        }

        void allWaves() {
            for (int[] wave : waves) {
                if (wave[0] == minute) {
                    wave(wave[1], wave[2]);
                }
            }
            if (tide != null && minute >= tide[0] && minute <= tide[1] && (minute - tide[0]) % tide[2] == 0
                && draw(100) < tide[3]) {
                int wide = reach[0] + draw(reach[1] - reach[0] + 1);
                wave(wide, level[0] + draw(level[1] - level[0] + 1));
            }
        }

        void sun() {
            for (int x = 0; x < columns; x++) {
                for (int y = 1; y < rows; y++) {
                    wet[x][y] = Math.max(0, wet[x][y] - (height[x][y] >= 10 ? 2 : 1));
                }
            }
        }

        boolean slideOne(int x, int y) {
            int tx = -1;
            int ty = -1;
            for (int by = 0; by < rows; by++) {
                for (int bx = 0; bx < columns; bx++) {
                    boolean isBeside = Math.abs(bx - x) + Math.abs(by - y) == 1 && !stone[bx][by];
                    if (isBeside && (tx < 0 || height[bx][by] < height[tx][ty])) {
                        tx = bx;
                        ty = by;
                    }
                }
            }
            if (stone[x][y] || tx < 0 || height[x][y] - height[tx][ty] <= holds(x, y)) {
                return false;
            }
            unitGoes(x, y, tx, ty);
            return true;
        }

        void slides() {
            slidLatest = 0;
            roundsLatest = 0;
            for (int round = 0; round < 50; round++) {
                int before = slidLatest;
                for (int y = 0; y < rows; y++) {
                    for (int x = 0; x < columns; x++) {
                        slidLatest += slideOne(x, y) ? 1 : 0;
                    }
                }
                if (slidLatest == before) {
                    break;
                }
                roundsLatest++;
            }
            slid += slidLatest;
        }

        void pass(List<List<int[]>> hands) {
            hands(hands);
            allWaves();
            if ((minute + 1) % dry == 0) {
                sun();
            }
            slides();
            for (int k = 0; k < flags.size(); k++) {
                int[] flag = flags.get(k);
                if (fell[k] < 0 && height[flag[0]][flag[1]] < flag[2] - fall) {
                    fell[k] = minute;
                }
            }
            minute++;
        }
    }

    int holds(int wet, int pack) {
        int strength = wet == 0 || wet == 16 ? 0 : Math.max(0, hump[1] - hump[2] * Math.abs(wet - hump[0]));
        return 1 + strength + packing * pack;
    }

    // ---- texts

    private static List<String[]> clauses(String text) {
        List<String[]> clauses = new ArrayList<>();
        for (String clause : text.split(";")) {
            if (!clause.isBlank()) {
                clauses.add(clause.trim().split("\\s+"));
            }
        }
        return clauses;
    }

    private static int[] numbers(String[] clause) {
        int[] numbers = new int[clause.length - 1];
        for (int i = 1; i < clause.length; i++) {
            numbers[i - 1] = Integer.parseInt(clause[i]);
        }
        return numbers;
    }

    /** A new beach: the sea, the chance and nothing else of before stay. */
    void beach(String text) {
        Plain fresh = new Plain();
        fresh.waves = waves;
        fresh.tide = tide;
        fresh.reach = reach;
        fresh.level = level;
        fresh.cut = cut;
        List<int[]> heaps = new ArrayList<>();
        List<int[]> stones = new ArrayList<>();
        for (String[] clause : clauses(text)) {
            fresh.tell(clause[0], numbers(clause), heaps, stones);
        }
        columns = fresh.columns;
        rows = fresh.rows;
        sand = fresh.sand;
        packing = fresh.packing;
        dry = fresh.dry;
        damp = fresh.damp;
        fall = fresh.fall;
        tire = fresh.tire;
        hump = fresh.hump;
        flags = fresh.flags;
        plans = new ArrayList<>();
        build(heaps, stones);
    }

    private void tell(String word, int[] n, List<int[]> heaps, List<int[]> stones) {
        switch (word) {
            case "beach" -> {
                columns = n[0];
                rows = n[1];
            }
            case "sand" -> sand = n[0];
            case "pack" -> packing = n[0];
            case "dry" -> dry = n[0];
            case "damp" -> damp = n[0];
            case "fall" -> fall = n[0];
            case "tire" -> tire = n[0];
            case "hump" -> hump = n;
            case "heap" -> heaps.add(n);
            case "stone" -> stones.add(n);
            case "flag" -> flags.add(new int[] {n[0], n[1], 0});
            default -> throw new IllegalArgumentException(word);
        }
    }

    private void build(List<int[]> heaps, List<int[]> stones) {
        long chance = now.chance;
        now = new Beach();
        now.chance = chance;
        for (int x = 0; x < columns; x++) {
            Arrays.fill(now.height[x], 0, rows, sand);
            Arrays.fill(now.wet[x], 0, rows, damp);
        }
        for (int[] heap : heaps) {
            now.height[heap[1]][heap[2]] += heap[0];
        }
        for (int[] stone : stones) {
            now.stone[stone[0]][stone[1]] = true;
        }
        for (int[] flag : flags) {
            flag[2] = now.height[flag[0]][flag[1]];
        }
    }

    void sea(String text) {
        waves = new ArrayList<>();
        tide = null;
        reach = new int[] {1, 3};
        level = new int[] {4, 8};
        cut = 1;
        for (String[] clause : clauses(text)) {
            int[] n = numbers(clause);
            switch (clause[0]) {
                case "wave" -> waves.add(n);
                case "tide" -> tide = n;
                case "reach" -> reach = n;
                case "level" -> level = n;
                case "cut" -> cut = n[0];
                default -> throw new IllegalArgumentException(clause[0]);
            }
        }
    }

    void plan(String text) {
        List<List<int[]>> hands = new ArrayList<>();
        List<String> words = List.of("dig", "pack", "wet", "wall", "rest");
        int[] sizes = {4, 2, 2, 2, 0};
        for (String[] clause : clauses(text)) {
            List<int[]> acts = new ArrayList<>();
            for (int at = 1; at < clause.length;) {
                int[] act = new int[5];
                act[0] = words.indexOf(clause[at++]);
                for (int i = 0; i < sizes[act[0]]; i++) {
                    act[1 + i] = Integer.parseInt(clause[at++]);
                }
                acts.add(act);
            }
            hands.add(acts);
        }
        plans.add(hands);
    }

    // ---- minutes and trials

    List<List<int[]>> hands(int plan) {
        return plan < 0 ? new ArrayList<>() : plans.get(plan);
    }

    void work(Beach beach, int plan) {
        beach.plan = plan;
        beach.done = new int[4];
        beach.rested = new int[4];
    }

    void pass(int n) {
        for (int i = 0; i < n; i++) {
            now.pass(hands(now.plan));
        }
    }

    Beach start(int plan, int seed) {
        Beach beach = now.copy();
        work(beach, plan);
        beach.chance = seed;
        return beach;
    }

    /** LAST of a flag, with a work (4: none) of the flag in each minute. */
    int last(int flag, int plan, int seed, int minutes, int[] works) {
        Beach beach = start(plan, seed);
        int last = 0;
        for (int m = 0; m < minutes; m++) {
            work(beach, flags.get(flag), m < works.length ? works[m] : 4);
            beach.pass(hands(plan));
            last += beach.fell[flag] < 0 ? 1 : 0;
        }
        return last;
    }

    private void work(Beach beach, int[] flag, int work) {
        int x = flag[0];
        int y = flag[1];
        if (work == 0 && y > 0) {
            beach.act(new int[] {3, x, y - 1});
        } else if (work == 1 && y > 0) {
            beach.act(new int[] {0, x, y - 1, x, y});
        } else if (work == 2 && y + 1 < rows) {
            beach.act(new int[] {0, x, y + 1, x, y});
        } else if (work == 3) {
            beach.act(new int[] {2, x, y});
        }
    }

    int row(int flag, int n, int seed, int minutes) {
        int greatest = -1;
        int best = -1;
        for (int digits = 0; digits <= 3333; digits++) {
            int[] works = new int[n];
            boolean isRow = true;
            int left = digits;
            for (int i = n - 1; i >= 0; i--) {
                works[i] = left % 10;
                isRow &= works[i] <= 3;
                left /= 10;
            }
            if (isRow && left == 0) {
                int last = last(flag, -1, seed, minutes, works);
                if (last > greatest) {
                    greatest = last;
                    best = digits;
                }
            }
        }
        return best;
    }

    int again(int flag, int seed, int minutes) {
        int greatest = last(flag, -1, seed, minutes, new int[0]);
        int best = -1;
        for (int m = 0; m < minutes; m++) {
            int[] works = new int[minutes];
            Arrays.fill(works, 4);
            works[m] = 3;
            int last = last(flag, -1, seed, minutes, works);
            if (last > greatest) {
                greatest = last;
                best = m;
            }
        }
        return best;
    }

    int stand(int n, int k, int minutes) {
        int greatest = -1;
        int best = -1;
        for (int c = 0; c < rows * columns; c++) {
            int x = c % columns;
            int y = c / columns;
            if (now.stone[x][y]) {
                continue;
            }
            int sum = 0;
            for (int seed = 1; seed <= k; seed++) {
                Beach beach = start(-1, seed);
                beach.height[x][y] += n;
                int put = beach.height[x][y];
                boolean stands = true;
                for (int m = 0; m < minutes; m++) {
                    beach.pass(hands(-1));
                    stands &= beach.height[x][y] >= put - fall;
                    sum += stands ? 1 : 0;
                }
            }
            if (sum > greatest) {
                greatest = sum;
                best = c;
            }
        }
        return best;
    }

    int outlasts(int a, int b, int k, int minutes, boolean isLower) {
        int more = 0;
        for (int seed = 1; seed <= k; seed++) {
            more += last(a, -1, seed, minutes, new int[0]) > last(b, -1, seed, minutes, new int[0]) ? 1 : 0;
        }
        int u = more;
        int l = k;
        while (u != 0) {
            int rest = l % u;
            l = u;
            u = rest;
        }
        return (isLower ? k : more) / l;
    }

    int contest(int rule, int k, int minutes) {
        int greatest = -1;
        int best = -1;
        for (int p = 0; p < plans.size(); p++) {
            int sum = 0;
            for (int seed = 1; seed <= k; seed++) {
                if (rule == 0) {
                    sum += last(0, p, seed, minutes, new int[0]);
                } else {
                    Beach beach = start(p, seed);
                    for (int m = 0; m < minutes; m++) {
                        beach.pass(hands(p));
                    }
                    sum += beach.height[flags.get(0)[0]][flags.get(0)[1]];
                }
            }
            if (sum > greatest) {
                greatest = sum;
                best = p;
            }
        }
        return best;
    }

    /** HEIGHTS behind a told wave, or as they are now, as which() is told them; beyond 94 a blank. */
    String heights(int wave) {
        Beach beach = now.copy();
        if (wave >= 0) {
            beach.wave(waves.get(wave)[1], waves.get(wave)[2]);
            beach.slides();
        }
        StringBuilder row = new StringBuilder();
        for (int y = 0; y < rows; y++) {
            for (int x = 0; x < columns; x++) {
                row.append((char) (beach.height[x][y] > 94 ? 32 : 32 + beach.height[x][y]));
            }
        }
        return row.toString();
    }

    int which(String told) {
        int bits = 0;
        for (int k = 0; k < waves.size(); k++) {
            Beach beach = now.copy();
            beach.wave(waves.get(k)[1], waves.get(k)[2]);
            beach.slides();
            boolean isAlike = true;
            for (int c = 0; c < columns * rows; c++) {
                isAlike &= beach.height[c % columns][c / columns] == told.charAt(c) - 32;
            }
            bits |= isAlike ? 1 << k : 0;
        }
        return bits;
    }
}
